theorem bX10_init_0 {d : Nat} {b : Nat × Nat} {S : XS} {im : XI} {Q : Option Value → XS → XI → Prop} {l0 : Nat}  (k : V mX10_init (d + 1) b 4 [some (.ref l0)] [] S im Q) : V mX10_init (d + 1) b 0 [some (.ref l0)] [] S im Q := by
  refine V.aload_n dX10_init_0 rfl rfl ?_
  refine V.objInit rfl lkX10_1 xoi_in xoi_code rfl dX10_init_1 ?_
  exact k
theorem bX10_init_4 {d : Nat} {b : Nat × Nat} {S : XS} {im : XI} {Q : Option Value → XS → XI → Prop} {l0 : Nat} {b1 : Nat × Nat} (g0 : 1 + b1.1 ≤ b.1 ∧ 384 + b1.2 ≤ b.2) (g1 : ((xpush S (.inr (.inl 384)))).1[l0]? = some (.inl 10)) (k : V mX10_init d b1 13 [some (.ref l0)] [] (((xpush S (.inr (.inl 384)))).1, xur ((xpush S (.inr (.inl 384)))).2 l0 0 (some S.1.length)) (xz im S.1.length) Q) : V mX10_init d b 4 [some (.ref l0)] [] S im Q := by
  refine V.aload_n dX10_init_4 rfl rfl ?_
  refine V.sipush (v := 384) dX10_init_5 (by decide) ?_
  refine V.newa (n := 384) rfl rfl xai g0 dX10_init_8 ?_
  refine V.putR fX10_7 (fun _ => ⟨rfl, TX10, 20, rfl⟩) rfl rfl g1 dX10_init_10 ?_
  exact k
theorem bX10_init_13 {d : Nat} {b : Nat × Nat} {S : XS} {im : XI} {Q : Option Value → XS → XI → Prop} {l0 : Nat} {b1 : Nat × Nat} (g0 : 1 + b1.1 ≤ b.1 ∧ 384 + b1.2 ≤ b.2) (g1 : ((xpush S (.inr (.inl 384)))).1[l0]? = some (.inl 10)) (k : V mX10_init d b1 22 [some (.ref l0)] [] (((xpush S (.inr (.inl 384)))).1, xur ((xpush S (.inr (.inl 384)))).2 l0 1 (some S.1.length)) (xz im S.1.length) Q) : V mX10_init d b 13 [some (.ref l0)] [] S im Q := by
  refine V.aload_n dX10_init_13 rfl rfl ?_
  refine V.sipush (v := 384) dX10_init_14 (by decide) ?_
  refine V.newa (n := 384) rfl rfl xai g0 dX10_init_17 ?_
  refine V.putR fX10_13 (fun _ => ⟨rfl, TX10, 20, rfl⟩) rfl rfl g1 dX10_init_19 ?_
  exact k
theorem bX10_init_22 {d : Nat} {b : Nat × Nat} {S : XS} {im : XI} {Q : Option Value → XS → XI → Prop} {l0 : Nat} {b1 : Nat × Nat} (g0 : 1 + b1.1 ≤ b.1 ∧ 50 + b1.2 ≤ b.2) (g1 : ((xpush S (.inr (.inl 50)))).1[l0]? = some (.inl 10)) (k : V mX10_init d b1 30 [some (.ref l0)] [] (((xpush S (.inr (.inl 50)))).1, xur ((xpush S (.inr (.inl 50)))).2 l0 2 (some S.1.length)) (xz im S.1.length) Q) : V mX10_init d b 22 [some (.ref l0)] [] S im Q := by
  refine V.aload_n dX10_init_22 rfl rfl ?_
  refine V.bipush (v := 50) dX10_init_23 (by decide) ?_
  refine V.newa (n := 50) rfl rfl xai g0 dX10_init_25 ?_
  refine V.putR fX10_16 (fun _ => ⟨rfl, TX10, 20, rfl⟩) rfl rfl g1 dX10_init_27 ?_
  exact k
theorem bX10_init_30 {d : Nat} {b : Nat × Nat} {S : XS} {im : XI} {Q : Option Value → XS → XI → Prop} {l0 : Nat} {b1 : Nat × Nat} (g0 : 1 + b1.1 ≤ b.1 ∧ 7 + b1.2 ≤ b.2) (g1 : ((xpush S (.inr (.inl 7)))).1[l0]? = some (.inl 10)) (k : V mX10_init d b1 38 [some (.ref l0)] [] (((xpush S (.inr (.inl 7)))).1, xur ((xpush S (.inr (.inl 7)))).2 l0 4 (some S.1.length)) (xz im S.1.length) Q) : V mX10_init d b 30 [some (.ref l0)] [] S im Q := by
  refine V.aload_n dX10_init_30 rfl rfl ?_
  refine V.bipush (v := 7) dX10_init_31 (by decide) ?_
  refine V.newa (n := 7) rfl rfl xai g0 dX10_init_33 ?_
  refine V.putR fX10_19 (fun _ => ⟨rfl, TX10, 20, rfl⟩) rfl rfl g1 dX10_init_35 ?_
  exact k
theorem bX10_init_38 {d : Nat} {b : Nat × Nat} {S : XS} {im : XI} {Q : Option Value → XS → XI → Prop} {l0 : Nat} {b1 : Nat × Nat} (g0 : 1 + b1.1 ≤ b.1 ∧ 124 + b1.2 ≤ b.2) (g1 : ((xpush S (.inr (.inl 124)))).1[l0]? = some (.inl 10)) (k : V mX10_init d b1 46 [some (.ref l0)] [] (((xpush S (.inr (.inl 124)))).1, xur ((xpush S (.inr (.inl 124)))).2 l0 9 (some S.1.length)) (xz im S.1.length) Q) : V mX10_init d b 38 [some (.ref l0)] [] S im Q := by
  refine V.aload_n dX10_init_38 rfl rfl ?_
  refine V.bipush (v := 124) dX10_init_39 (by decide) ?_
  refine V.newa (n := 124) rfl rfl xai g0 dX10_init_41 ?_
  refine V.putR fX10_22 (fun _ => ⟨rfl, TX10, 20, rfl⟩) rfl rfl g1 dX10_init_43 ?_
  exact k
theorem bX10_init_46 {d : Nat} {b : Nat × Nat} {S : XS} {im : XI} {Q : Option Value → XS → XI → Prop} {l0 : Nat} {b1 : Nat × Nat} (g0 : 1 + b1.1 ≤ b.1 ∧ 128 + b1.2 ≤ b.2) (g1 : ((xpush S (.inr (.inl 128)))).1[l0]? = some (.inl 10)) (k : V mX10_init d b1 55 [some (.ref l0)] [] (((xpush S (.inr (.inl 128)))).1, xur ((xpush S (.inr (.inl 128)))).2 l0 10 (some S.1.length)) (xz im S.1.length) Q) : V mX10_init d b 46 [some (.ref l0)] [] S im Q := by
  refine V.aload_n dX10_init_46 rfl rfl ?_
  refine V.sipush (v := 128) dX10_init_47 (by decide) ?_
  refine V.newa (n := 128) rfl rfl xai g0 dX10_init_50 ?_
  refine V.putR fX10_25 (fun _ => ⟨rfl, TX10, 20, rfl⟩) rfl rfl g1 dX10_init_52 ?_
  exact k
theorem bX10_init_55 {d : Nat} {b : Nat × Nat} {S : XS} {im : XI} {Q : Option Value → XS → XI → Prop} {l0 : Nat} {b1 : Nat × Nat} (g0 : 1 + b1.1 ≤ b.1 ∧ 64 + b1.2 ≤ b.2) (g1 : ((xpush S (.inr (.inl 64)))).1[l0]? = some (.inl 10)) (k : V mX10_init d b1 63 [some (.ref l0)] [] (((xpush S (.inr (.inl 64)))).1, xur ((xpush S (.inr (.inl 64)))).2 l0 11 (some S.1.length)) (xz im S.1.length) Q) : V mX10_init d b 55 [some (.ref l0)] [] S im Q := by
  refine V.aload_n dX10_init_55 rfl rfl ?_
  refine V.bipush (v := 64) dX10_init_56 (by decide) ?_
  refine V.newa (n := 64) rfl rfl xai g0 dX10_init_58 ?_
  refine V.putR fX10_28 (fun _ => ⟨rfl, TX10, 20, rfl⟩) rfl rfl g1 dX10_init_60 ?_
  exact k
theorem bX10_init_63 {d : Nat} {b : Nat × Nat} {S : XS} {im : XI} {Q : Option Value → XS → XI → Prop} {l0 : Nat} {b1 : Nat × Nat} (g0 : 1 + b1.1 ≤ b.1 ∧ 30 + b1.2 ≤ b.2) (g1 : ((xpush S (.inr (.inl 30)))).1[l0]? = some (.inl 10)) (k : V mX10_init d b1 71 [some (.ref l0)] [] (((xpush S (.inr (.inl 30)))).1, xur ((xpush S (.inr (.inl 30)))).2 l0 13 (some S.1.length)) (xz im S.1.length) Q) : V mX10_init d b 63 [some (.ref l0)] [] S im Q := by
  refine V.aload_n dX10_init_63 rfl rfl ?_
  refine V.bipush (v := 30) dX10_init_64 (by decide) ?_
  refine V.newa (n := 30) rfl rfl xai g0 dX10_init_66 ?_
  refine V.putR fX10_31 (fun _ => ⟨rfl, TX10, 20, rfl⟩) rfl rfl g1 dX10_init_68 ?_
  exact k
theorem bX10_init_71 {d : Nat} {b : Nat × Nat} {S : XS} {im : XI} {Q : Option Value → XS → XI → Prop} {l0 : Nat} {b1 : Nat × Nat} (g0 : 1 + b1.1 ≤ b.1 ∧ 4 + b1.2 ≤ b.2) (g1 : ((xpush S (.inr (.inl 4)))).1[l0]? = some (.inl 10)) (k : V mX10_init d b1 78 [some (.ref l0)] [] (((xpush S (.inr (.inl 4)))).1, xur ((xpush S (.inr (.inl 4)))).2 l0 16 (some S.1.length)) (xz im S.1.length) Q) : V mX10_init d b 71 [some (.ref l0)] [] S im Q := by
  refine V.aload_n dX10_init_71 rfl rfl ?_
  refine V.iconst (v := 4) dX10_init_72 (by decide) ?_
  refine V.newa (n := 4) rfl rfl xai g0 dX10_init_73 ?_
  refine V.putR fX10_34 (fun _ => ⟨rfl, TX10, 20, rfl⟩) rfl rfl g1 dX10_init_75 ?_
  exact k
theorem bX10_init_78 {d : Nat} {b : Nat × Nat} {S : XS} {im : XI} {Q : Option Value → XS → XI → Prop} {l0 : Nat} {b1 : Nat × Nat} (g0 : 1 + b1.1 ≤ b.1 ∧ 4 + b1.2 ≤ b.2) (g1 : ((xpush S (.inr (.inl 4)))).1[l0]? = some (.inl 10)) (k : V mX10_init d b1 85 [some (.ref l0)] [] (((xpush S (.inr (.inl 4)))).1, xur ((xpush S (.inr (.inl 4)))).2 l0 17 (some S.1.length)) (xz im S.1.length) Q) : V mX10_init d b 78 [some (.ref l0)] [] S im Q := by
  refine V.aload_n dX10_init_78 rfl rfl ?_
  refine V.iconst (v := 4) dX10_init_79 (by decide) ?_
  refine V.newa (n := 4) rfl rfl xai g0 dX10_init_80 ?_
  refine V.putR fX10_37 (fun _ => ⟨rfl, TX10, 20, rfl⟩) rfl rfl g1 dX10_init_82 ?_
  exact k
theorem bX10_init_85 {d : Nat} {b : Nat × Nat} {S : XS} {im : XI} {Q : Option Value → XS → XI → Prop} {l0 : Nat} {b1 : Nat × Nat} (g0 : 1 + b1.1 ≤ b.1 ∧ 96 + b1.2 ≤ b.2) (g1 : ((xpush S (.inr (.inl 96)))).1[l0]? = some (.inl 10)) (k : V mX10_init d b1 93 [some (.ref l0)] [] (((xpush S (.inr (.inl 96)))).1, xur ((xpush S (.inr (.inl 96)))).2 l0 18 (some S.1.length)) (xz im S.1.length) Q) : V mX10_init d b 85 [some (.ref l0)] [] S im Q := by
  refine V.aload_n dX10_init_85 rfl rfl ?_
  refine V.bipush (v := 96) dX10_init_86 (by decide) ?_
  refine V.newa (n := 96) rfl rfl xai g0 dX10_init_88 ?_
  refine V.putR fX10_40 (fun _ => ⟨rfl, TX10, 20, rfl⟩) rfl rfl g1 dX10_init_90 ?_
  exact k
theorem bX10_init_93 {d : Nat} {b : Nat × Nat} {S : XS} {im : XI} {Q : Option Value → XS → XI → Prop} {l0 : Nat} {b1 : Nat × Nat} (g0 : 1 + b1.1 ≤ b.1 ∧ 24 + b1.2 ≤ b.2) (g1 : ((xpush S (.inr (.inl 24)))).1[l0]? = some (.inl 10)) (k : V mX10_init d b1 101 [some (.ref l0)] [] (((xpush S (.inr (.inl 24)))).1, xur ((xpush S (.inr (.inl 24)))).2 l0 19 (some S.1.length)) (xz im S.1.length) Q) : V mX10_init d b 93 [some (.ref l0)] [] S im Q := by
  refine V.aload_n dX10_init_93 rfl rfl ?_
  refine V.bipush (v := 24) dX10_init_94 (by decide) ?_
  refine V.newa (n := 24) rfl rfl xai g0 dX10_init_96 ?_
  refine V.putR fX10_43 (fun _ => ⟨rfl, TX10, 20, rfl⟩) rfl rfl g1 dX10_init_98 ?_
  exact k
theorem bX10_init_101 {d : Nat} {b : Nat × Nat} {S : XS} {im : XI} {Q : Option Value → XS → XI → Prop} {l0 : Nat} {r1 : Nat} {n2 : Nat} (g0 : S.1[l0]? = some (.inl 10)) (g1 : S.2 l0 0 = some r1) (g2 : XA S r1 n2) (g3 : 1 < n2) (hq : Q none S (xup im r1 1 (1 : Int32))) : V mX10_init d b 101 [some (.ref l0)] [] S im Q := by
  refine V.aload_n dX10_init_101 rfl rfl ?_
  refine V.getR fX10_7 rfl g0 g1 dX10_init_102 ?_
  refine V.iconst (v := 1) dX10_init_105 (by decide) ?_
  refine V.iconst (v := 1) dX10_init_106 (by decide) ?_
  refine V.iast (i := 1) g2 (by rfl) g3 dX10_init_107 ?_
  exact V.vret rfl dX10_init_108 hq
theorem bX10_error_0 {d : Nat} {b : Nat × Nat}  {im : XI} {Q : Option Value → XS → XI → Prop} {l1 : Int32} {i1 : Nat} (g0 : l1 = nI i1) (g1 : i1 < 7) (hq : Q (some (.int ((-1000000000 : Int32) - l1))) SM (xup im 4 i1 ((im 4 i1) + (1 : Int32)))) : V mX10_error d b 0 [some (.ref 0), some (.int l1)] [] SM im Q := by
  refine V.aload_n dX10_error_0 rfl rfl ?_
  refine V.getR fX10_19 rfl (by rfl) (by rfl) dX10_error_1 ?_
  refine V.iload_n dX10_error_4 rfl rfl ?_
  refine V.dup2 dX10_error_5 rfl rfl ?_
  refine V.iald (i := i1) ⟨by rfl, by rfl⟩ g0 g1 dX10_error_6 ?_
  refine V.iconst (v := 1) dX10_error_7 (by decide) ?_
  refine V.iadd dX10_error_8 ?_
  refine V.iast (i := i1) ⟨by rfl, by rfl⟩ g0 g1 dX10_error_9 ?_
  refine V.ldc kX10_46 dX10_error_10 ?_
  refine V.iload_n dX10_error_12 rfl rfl ?_
  refine V.isub dX10_error_13 ?_
  exact V.iret rfl dX10_error_14 hq
theorem bX10_in_0 {d : Nat} {b : Nat × Nat} {S : XS} {im : XI} {Q : Option Value → XS → XI → Prop} {l0 : Int32} {l1 : Int32} {l2 : Int32}  (kt : l0 < l1 → V mX10_in d b 14 [some (.int l0), some (.int l1), some (.int l2)] [] S im Q) (kf : ¬ l0 < l1 → V mX10_in d b 5 [some (.int l0), some (.int l1), some (.int l2)] [] S im Q) : V mX10_in d b 0 [some (.int l0), some (.int l1), some (.int l2)] [] S im Q := by
  refine V.iload_n dX10_in_0 rfl rfl ?_
  refine V.iload_n dX10_in_1 rfl rfl ?_
  refine V.icmp_lt (tgt := 14) dX10_in_2 (by decide) (fun h => ?_) (fun h => ?_)
  · exact kt h
  · exact kf h
theorem bX10_in_5 {d : Nat} {b : Nat × Nat} {S : XS} {im : XI} {Q : Option Value → XS → XI → Prop} {l0 : Int32} {l1 : Int32} {l2 : Int32}  (kt : l2 < l0 → V mX10_in d b 14 [some (.int l0), some (.int l1), some (.int l2)] [] S im Q) (kf : ¬ l2 < l0 → V mX10_in d b 10 [some (.int l0), some (.int l1), some (.int l2)] [] S im Q) : V mX10_in d b 5 [some (.int l0), some (.int l1), some (.int l2)] [] S im Q := by
  refine V.iload_n dX10_in_5 rfl rfl ?_
  refine V.iload_n dX10_in_6 rfl rfl ?_
  refine V.icmp_gt (tgt := 14) dX10_in_7 (by decide) (fun h => ?_) (fun h => ?_)
  · exact kt h
  · exact kf h
theorem bX10_in_10 {d : Nat} {b : Nat × Nat} {S : XS} {im : XI} {Q : Option Value → XS → XI → Prop} {l0 : Int32} {l1 : Int32} {l2 : Int32}  (k : V mX10_in d b 15 [some (.int l0), some (.int l1), some (.int l2)] [.int (1 : Int32)] S im Q) : V mX10_in d b 10 [some (.int l0), some (.int l1), some (.int l2)] [] S im Q := by
  refine V.iconst (v := 1) dX10_in_10 (by decide) ?_
  refine V.goto (tgt := 15) dX10_in_11 (by decide) ?_
  exact k
theorem bX10_in_14 {d : Nat} {b : Nat × Nat} {S : XS} {im : XI} {Q : Option Value → XS → XI → Prop} {l0 : Int32} {l1 : Int32} {l2 : Int32}  (k : V mX10_in d b 15 [some (.int l0), some (.int l1), some (.int l2)] [.int (0 : Int32)] S im Q) : V mX10_in d b 14 [some (.int l0), some (.int l1), some (.int l2)] [] S im Q := by
  refine V.iconst (v := 0) dX10_in_14 (by decide) ?_
  exact k
theorem bX10_in_15 {d : Nat} {b : Nat × Nat} {S : XS} {im : XI} {Q : Option Value → XS → XI → Prop} {l0 : Int32} {l1 : Int32} {l2 : Int32} {s0 : Int32} (g0 : s0 = 0 ∨ s0 = 1) (hq : Q (some (.int s0)) S im) : V mX10_in d b 15 [some (.int l0), some (.int l1), some (.int l2)] [.int s0] S im Q := by
  exact V.zret rfl g0 dX10_in_15 hq
theorem bX10_held_0 {d : Nat} {b : Nat × Nat} {S : XS} {im : XI} {Q : Option Value → XS → XI → Prop} {l0 : Int32} {l1 : Int32} {l2 : Int32}  (kt : l1 ≤ l0 → V mX10_held d b 9 [some (.int l0), some (.int l1), some (.int l2)] [] S im Q) (kf : ¬ l1 ≤ l0 → V mX10_held d b 5 [some (.int l0), some (.int l1), some (.int l2)] [] S im Q) : V mX10_held d b 0 [some (.int l0), some (.int l1), some (.int l2)] [] S im Q := by
  refine V.iload_n dX10_held_0 rfl rfl ?_
  refine V.iload_n dX10_held_1 rfl rfl ?_
  refine V.icmp_ge (tgt := 9) dX10_held_2 (by decide) (fun h => ?_) (fun h => ?_)
  · exact kt h
  · exact kf h
theorem bX10_held_5 {d : Nat} {b : Nat × Nat} {S : XS} {im : XI} {Q : Option Value → XS → XI → Prop} {l0 : Int32} {l1 : Int32} {l2 : Int32}  (k : V mX10_held d b 19 [some (.int l0), some (.int l1), some (.int l2)] [.int l1] S im Q) : V mX10_held d b 5 [some (.int l0), some (.int l1), some (.int l2)] [] S im Q := by
  refine V.iload_n dX10_held_5 rfl rfl ?_
  refine V.goto (tgt := 19) dX10_held_6 (by decide) ?_
  exact k
theorem bX10_held_9 {d : Nat} {b : Nat × Nat} {S : XS} {im : XI} {Q : Option Value → XS → XI → Prop} {l0 : Int32} {l1 : Int32} {l2 : Int32}  (kt : l0 ≤ l2 → V mX10_held d b 18 [some (.int l0), some (.int l1), some (.int l2)] [] S im Q) (kf : ¬ l0 ≤ l2 → V mX10_held d b 14 [some (.int l0), some (.int l1), some (.int l2)] [] S im Q) : V mX10_held d b 9 [some (.int l0), some (.int l1), some (.int l2)] [] S im Q := by
  refine V.iload_n dX10_held_9 rfl rfl ?_
  refine V.iload_n dX10_held_10 rfl rfl ?_
  refine V.icmp_le (tgt := 18) dX10_held_11 (by decide) (fun h => ?_) (fun h => ?_)
  · exact kt h
  · exact kf h
theorem bX10_held_14 {d : Nat} {b : Nat × Nat} {S : XS} {im : XI} {Q : Option Value → XS → XI → Prop} {l0 : Int32} {l1 : Int32} {l2 : Int32}  (k : V mX10_held d b 19 [some (.int l0), some (.int l1), some (.int l2)] [.int l2] S im Q) : V mX10_held d b 14 [some (.int l0), some (.int l1), some (.int l2)] [] S im Q := by
  refine V.iload_n dX10_held_14 rfl rfl ?_
  refine V.goto (tgt := 19) dX10_held_15 (by decide) ?_
  exact k
theorem bX10_held_18 {d : Nat} {b : Nat × Nat} {S : XS} {im : XI} {Q : Option Value → XS → XI → Prop} {l0 : Int32} {l1 : Int32} {l2 : Int32}  (k : V mX10_held d b 19 [some (.int l0), some (.int l1), some (.int l2)] [.int l0] S im Q) : V mX10_held d b 18 [some (.int l0), some (.int l1), some (.int l2)] [] S im Q := by
  refine V.iload_n dX10_held_18 rfl rfl ?_
  exact k
theorem bX10_held_19 {d : Nat} {b : Nat × Nat} {S : XS} {im : XI} {Q : Option Value → XS → XI → Prop} {l0 : Int32} {l1 : Int32} {l2 : Int32} {s0 : Int32}  (hq : Q (some (.int s0)) S im) : V mX10_held d b 19 [some (.int l0), some (.int l1), some (.int l2)] [.int s0] S im Q := by
  exact V.iret rfl dX10_held_19 hq
theorem bX10_copyAll_0 {d : Nat} {b : Nat × Nat} {S : XS} {im : XI} {Q : Option Value → XS → XI → Prop} {l0 : Nat} {l1 : Nat}  (k : V mX10_copyAll d b 2 [some (.ref l0), some (.ref l1), some (.int (0 : Int32))] [] S im Q) : V mX10_copyAll d b 0 [some (.ref l0), some (.ref l1), none] [] S im Q := by
  refine V.iconst (v := 0) dX10_copyAll_0 (by decide) ?_
  refine V.istore_n dX10_copyAll_1 rfl rfl rfl ?_
  exact k
theorem bX10_copyAll_2 {d : Nat} {b : Nat × Nat} {S : XS} {im : XI} {Q : Option Value → XS → XI → Prop} {l0 : Nat} {l1 : Nat} {l2 : Int32}  (kt : (384 : Int32) ≤ l2 → V mX10_copyAll d b 21 [some (.ref l0), some (.ref l1), some (.int l2)] [] S im Q) (kf : ¬ (384 : Int32) ≤ l2 → V mX10_copyAll d b 9 [some (.ref l0), some (.ref l1), some (.int l2)] [] S im Q) : V mX10_copyAll d b 2 [some (.ref l0), some (.ref l1), some (.int l2)] [] S im Q := by
  refine V.iload_n dX10_copyAll_2 rfl rfl ?_
  refine V.sipush (v := 384) dX10_copyAll_3 (by decide) ?_
  refine V.icmp_ge (tgt := 21) dX10_copyAll_6 (by decide) (fun h => ?_) (fun h => ?_)
  · exact kt h
  · exact kf h
theorem bX10_copyAll_9 {d : Nat} {b : Nat × Nat} {S : XS} {im : XI} {Q : Option Value → XS → XI → Prop} {l0 : Nat} {l1 : Nat} {l2 : Int32} {n1 : Nat} {i2 : Nat} {n3 : Nat} (g0 : XA S l0 n1) (g1 : l2 = nI i2) (g2 : i2 < n1) (g3 : XA S l1 n3) (g4 : i2 < n3) (k : V mX10_copyAll d b 2 [some (.ref l0), some (.ref l1), some (.int (l2 + (1 : Int32)))] [] S (xup im l1 i2 (im l0 i2)) Q) : V mX10_copyAll d b 9 [some (.ref l0), some (.ref l1), some (.int l2)] [] S im Q := by
  refine V.aload_n dX10_copyAll_9 rfl rfl ?_
  refine V.iload_n dX10_copyAll_10 rfl rfl ?_
  refine V.aload_n dX10_copyAll_11 rfl rfl ?_
  refine V.iload_n dX10_copyAll_12 rfl rfl ?_
  refine V.iald (i := i2) g0 g1 g2 dX10_copyAll_13 ?_
  refine V.iast (i := i2) g3 g1 g4 dX10_copyAll_14 ?_
  refine V.iinc (v := (l2 + (1 : Int32))) dX10_copyAll_15 rfl rfl rfl ?_
  refine V.goto (tgt := 2) dX10_copyAll_18 (by decide) ?_
  exact k
theorem bX10_copyAll_21 {d : Nat} {b : Nat × Nat} {S : XS} {im : XI} {Q : Option Value → XS → XI → Prop} {l0 : Nat} {l1 : Nat} {l2 : Int32}  (hq : Q none S im) : V mX10_copyAll d b 21 [some (.ref l0), some (.ref l1), some (.int l2)] [] S im Q := by
  exact V.vret rfl dX10_copyAll_21 hq
theorem bX10_layDown_0 {d : Nat} {b : Nat × Nat}  {im : XI} {Q : Option Value → XS → XI → Prop}   (k : V mX10_layDown d b 2 [some (.ref 0), some (.int (0 : Int32))] [] SM im Q) : V mX10_layDown d b 0 [some (.ref 0), none] [] SM im Q := by
  refine V.iconst (v := 0) dX10_layDown_0 (by decide) ?_
  refine V.istore_n dX10_layDown_1 rfl rfl rfl ?_
  exact k
theorem bX10_layDown_2 {d : Nat} {b : Nat × Nat}  {im : XI} {Q : Option Value → XS → XI → Prop} {l1 : Int32}  (kt : (50 : Int32) ≤ l1 → V mX10_layDown d b 26 [some (.ref 0), some (.int l1)] [] SM im Q) (kf : ¬ (50 : Int32) ≤ l1 → V mX10_layDown d b 8 [some (.ref 0), some (.int l1)] [] SM im Q) : V mX10_layDown d b 2 [some (.ref 0), some (.int l1)] [] SM im Q := by
  refine V.iload_n dX10_layDown_2 rfl rfl ?_
  refine V.bipush (v := 50) dX10_layDown_3 (by decide) ?_
  refine V.icmp_ge (tgt := 26) dX10_layDown_5 (by decide) (fun h => ?_) (fun h => ?_)
  · exact kt h
  · exact kf h
theorem bX10_layDown_8 {d : Nat} {b : Nat × Nat}  {im : XI} {Q : Option Value → XS → XI → Prop} {l1 : Int32} {i1 : Nat} (g0 : l1 = nI i1) (g1 : i1 < 384) (g2 : i1 < 50) (k : V mX10_layDown d b 2 [some (.ref 0), some (.int (l1 + (1 : Int32)))] [] SM (xup im 3 i1 (im 1 i1)) Q) : V mX10_layDown d b 8 [some (.ref 0), some (.int l1)] [] SM im Q := by
  refine V.aload_n dX10_layDown_8 rfl rfl ?_
  refine V.getR fX10_16 rfl (by rfl) (by rfl) dX10_layDown_9 ?_
  refine V.iload_n dX10_layDown_12 rfl rfl ?_
  refine V.aload_n dX10_layDown_13 rfl rfl ?_
  refine V.getR fX10_7 rfl (by rfl) (by rfl) dX10_layDown_14 ?_
  refine V.iload_n dX10_layDown_17 rfl rfl ?_
  refine V.iald (i := i1) ⟨by rfl, by rfl⟩ g0 g1 dX10_layDown_18 ?_
  refine V.iast (i := i1) ⟨by rfl, by rfl⟩ g0 g2 dX10_layDown_19 ?_
  refine V.iinc (v := (l1 + (1 : Int32))) dX10_layDown_20 rfl rfl rfl ?_
  refine V.goto (tgt := 2) dX10_layDown_23 (by decide) ?_
  exact k
theorem bX10_layDown_26 {d : Nat} {b : Nat × Nat}  {im : XI} {Q : Option Value → XS → XI → Prop} {l1 : Int32}  (hq : Q none SM im) : V mX10_layDown d b 26 [some (.ref 0), some (.int l1)] [] SM im Q := by
  exact V.vret rfl dX10_layDown_26 hq
theorem bX10_layBack_0 {d : Nat} {b : Nat × Nat}  {im : XI} {Q : Option Value → XS → XI → Prop}   (k : V mX10_layBack d b 2 [some (.ref 0), some (.int (0 : Int32))] [] SM im Q) : V mX10_layBack d b 0 [some (.ref 0), none] [] SM im Q := by
  refine V.iconst (v := 0) dX10_layBack_0 (by decide) ?_
  refine V.istore_n dX10_layBack_1 rfl rfl rfl ?_
  exact k
theorem bX10_layBack_2 {d : Nat} {b : Nat × Nat}  {im : XI} {Q : Option Value → XS → XI → Prop} {l1 : Int32}  (kt : (50 : Int32) ≤ l1 → V mX10_layBack d b 26 [some (.ref 0), some (.int l1)] [] SM im Q) (kf : ¬ (50 : Int32) ≤ l1 → V mX10_layBack d b 8 [some (.ref 0), some (.int l1)] [] SM im Q) : V mX10_layBack d b 2 [some (.ref 0), some (.int l1)] [] SM im Q := by
  refine V.iload_n dX10_layBack_2 rfl rfl ?_
  refine V.bipush (v := 50) dX10_layBack_3 (by decide) ?_
  refine V.icmp_ge (tgt := 26) dX10_layBack_5 (by decide) (fun h => ?_) (fun h => ?_)
  · exact kt h
  · exact kf h
theorem bX10_layBack_8 {d : Nat} {b : Nat × Nat}  {im : XI} {Q : Option Value → XS → XI → Prop} {l1 : Int32} {i1 : Nat} (g0 : l1 = nI i1) (g1 : i1 < 50) (g2 : i1 < 384) (k : V mX10_layBack d b 2 [some (.ref 0), some (.int (l1 + (1 : Int32)))] [] SM (xup im 1 i1 (im 3 i1)) Q) : V mX10_layBack d b 8 [some (.ref 0), some (.int l1)] [] SM im Q := by
  refine V.aload_n dX10_layBack_8 rfl rfl ?_
  refine V.getR fX10_7 rfl (by rfl) (by rfl) dX10_layBack_9 ?_
  refine V.iload_n dX10_layBack_12 rfl rfl ?_
  refine V.aload_n dX10_layBack_13 rfl rfl ?_
  refine V.getR fX10_16 rfl (by rfl) (by rfl) dX10_layBack_14 ?_
  refine V.iload_n dX10_layBack_17 rfl rfl ?_
  refine V.iald (i := i1) ⟨by rfl, by rfl⟩ g0 g1 dX10_layBack_18 ?_
  refine V.iast (i := i1) ⟨by rfl, by rfl⟩ g0 g2 dX10_layBack_19 ?_
  refine V.iinc (v := (l1 + (1 : Int32))) dX10_layBack_20 rfl rfl rfl ?_
  refine V.goto (tgt := 2) dX10_layBack_23 (by decide) ?_
  exact k
theorem bX10_layBack_26 {d : Nat} {b : Nat × Nat}  {im : XI} {Q : Option Value → XS → XI → Prop} {l1 : Int32}  (hq : Q none SM im) : V mX10_layBack d b 26 [some (.ref 0), some (.int l1)] [] SM im Q := by
  exact V.vret rfl dX10_layBack_26 hq
theorem bX10_isPerson_0 {d : Nat} {b : Nat × Nat}  {im : XI} {Q : Option Value → XS → XI → Prop} {l1 : Int32} {P : Int32 → XI → Prop}  (hs : SpI mX10_in d [.int l1, .int (0 : Int32), .int ((im 1 4) - (1 : Int32))] SM im P) (k : ∀ x2 im2, P x2 im2 → V mX10_isPerson (d + 1) b 13 [some (.ref 0), some (.int l1)] [.int x2] SM im2 Q) : V mX10_isPerson (d + 1) b 0 [some (.ref 0), some (.int l1)] [] SM im Q := by
  refine V.iload_n dX10_isPerson_0 rfl rfl ?_
  refine V.iconst (v := 0) dX10_isPerson_1 (by decide) ?_
  refine V.aload_n dX10_isPerson_2 rfl rfl ?_
  refine V.getR fX10_7 rfl (by rfl) (by rfl) dX10_isPerson_3 ?_
  refine V.iconst (v := 4) dX10_isPerson_6 (by decide) ?_
  refine V.iald (i := 4) ⟨by rfl, by rfl⟩ (by rfl) (by decide) dX10_isPerson_7 ?_
  refine V.iconst (v := 1) dX10_isPerson_8 (by decide) ?_
  refine V.isub dX10_isPerson_9 ?_
  refine V.cSI rfl vX10_in lkX10_47 sX10_in (As := [.int l1, .int (0 : Int32), .int ((im 1 4) - (1 : Int32))]) rfl rfl rfl dX10_isPerson_10 hs (fun x2 im2 h2 => ?_)
  exact k x2 im2 h2
theorem bX10_isPerson_13 {d : Nat} {b : Nat × Nat}  {im : XI} {Q : Option Value → XS → XI → Prop} {l1 : Int32} {s0 : Int32} (g0 : s0 = 0 ∨ s0 = 1) (hq : Q (some (.int s0)) SM im) : V mX10_isPerson d b 13 [some (.ref 0), some (.int l1)] [.int s0] SM im Q := by
  exact V.zret rfl g0 dX10_isPerson_13 hq
theorem bX10_isDoing_0 {d : Nat} {b : Nat × Nat}  {im : XI} {Q : Option Value → XS → XI → Prop} {l1 : Int32} {P : Int32 → XI → Prop}  (hs : SpI mX10_in d [.int l1, .int (0 : Int32), .int ((im 1 5) - (1 : Int32))] SM im P) (k : ∀ x2 im2, P x2 im2 → V mX10_isDoing (d + 1) b 13 [some (.ref 0), some (.int l1)] [.int x2] SM im2 Q) : V mX10_isDoing (d + 1) b 0 [some (.ref 0), some (.int l1)] [] SM im Q := by
  refine V.iload_n dX10_isDoing_0 rfl rfl ?_
  refine V.iconst (v := 0) dX10_isDoing_1 (by decide) ?_
  refine V.aload_n dX10_isDoing_2 rfl rfl ?_
  refine V.getR fX10_7 rfl (by rfl) (by rfl) dX10_isDoing_3 ?_
  refine V.iconst (v := 5) dX10_isDoing_6 (by decide) ?_
  refine V.iald (i := 5) ⟨by rfl, by rfl⟩ (by rfl) (by decide) dX10_isDoing_7 ?_
  refine V.iconst (v := 1) dX10_isDoing_8 (by decide) ?_
  refine V.isub dX10_isDoing_9 ?_
  refine V.cSI rfl vX10_in lkX10_47 sX10_in (As := [.int l1, .int (0 : Int32), .int ((im 1 5) - (1 : Int32))]) rfl rfl rfl dX10_isDoing_10 hs (fun x2 im2 h2 => ?_)
  exact k x2 im2 h2
theorem bX10_isDoing_13 {d : Nat} {b : Nat × Nat}  {im : XI} {Q : Option Value → XS → XI → Prop} {l1 : Int32} {s0 : Int32} (g0 : s0 = 0 ∨ s0 = 1) (hq : Q (some (.int s0)) SM im) : V mX10_isDoing d b 13 [some (.ref 0), some (.int l1)] [.int s0] SM im Q := by
  exact V.zret rfl g0 dX10_isDoing_13 hq
theorem bX10_isSet_0 {d : Nat} {b : Nat × Nat}  {im : XI} {Q : Option Value → XS → XI → Prop} {l1 : Int32} {P : Int32 → XI → Prop}  (hs : SpI mX10_in d [.int l1, .int (0 : Int32), .int (((1 : Int32) <<< ((im 1 4) &&& 31)) - (1 : Int32))] SM im P) (k : ∀ x2 im2, P x2 im2 → V mX10_isSet (d + 1) b 15 [some (.ref 0), some (.int l1)] [.int x2] SM im2 Q) : V mX10_isSet (d + 1) b 0 [some (.ref 0), some (.int l1)] [] SM im Q := by
  refine V.iload_n dX10_isSet_0 rfl rfl ?_
  refine V.iconst (v := 0) dX10_isSet_1 (by decide) ?_
  refine V.iconst (v := 1) dX10_isSet_2 (by decide) ?_
  refine V.aload_n dX10_isSet_3 rfl rfl ?_
  refine V.getR fX10_7 rfl (by rfl) (by rfl) dX10_isSet_4 ?_
  refine V.iconst (v := 4) dX10_isSet_7 (by decide) ?_
  refine V.iald (i := 4) ⟨by rfl, by rfl⟩ (by rfl) (by decide) dX10_isSet_8 ?_
  refine V.ishl dX10_isSet_9 ?_
  refine V.iconst (v := 1) dX10_isSet_10 (by decide) ?_
  refine V.isub dX10_isSet_11 ?_
  refine V.cSI rfl vX10_in lkX10_47 sX10_in (As := [.int l1, .int (0 : Int32), .int (((1 : Int32) <<< ((im 1 4) &&& 31)) - (1 : Int32))]) rfl rfl rfl dX10_isSet_12 hs (fun x2 im2 h2 => ?_)
  exact k x2 im2 h2
theorem bX10_isSet_15 {d : Nat} {b : Nat × Nat}  {im : XI} {Q : Option Value → XS → XI → Prop} {l1 : Int32} {s0 : Int32} (g0 : s0 = 0 ∨ s0 = 1) (hq : Q (some (.int s0)) SM im) : V mX10_isSet d b 15 [some (.ref 0), some (.int l1)] [.int s0] SM im Q := by
  exact V.zret rfl g0 dX10_isSet_15 hq
theorem bX10_its_0 {d : Nat} {b : Nat × Nat}  {im : XI} {Q : Option Value → XS → XI → Prop} {l1 : Int32} {l2 : Int32} {i1 : Nat} (g0 : (((8 : Int32) + ((4 : Int32) * l1)) + l2) = nI i1) (g1 : i1 < 384) (hq : Q (some (.int (im 1 i1))) SM im) : V mX10_its d b 0 [some (.ref 0), some (.int l1), some (.int l2)] [] SM im Q := by
  refine V.aload_n dX10_its_0 rfl rfl ?_
  refine V.getR fX10_7 rfl (by rfl) (by rfl) dX10_its_1 ?_
  refine V.bipush (v := 8) dX10_its_4 (by decide) ?_
  refine V.iconst (v := 4) dX10_its_6 (by decide) ?_
  refine V.iload_n dX10_its_7 rfl rfl ?_
  refine V.imul dX10_its_8 ?_
  refine V.iadd dX10_its_9 ?_
  refine V.iload_n dX10_its_10 rfl rfl ?_
  refine V.iadd dX10_its_11 ?_
  refine V.iald (i := i1) ⟨by rfl, by rfl⟩ g0 g1 dX10_its_12 ?_
  exact V.iret rfl dX10_its_13 hq
theorem bX10_lays1_0 {d : Nat} {b : Nat × Nat}  {im : XI} {Q : Option Value → XS → XI → Prop} {l1 : Int32} {l2 : Int32} {l3 : Int32} {i1 : Nat} (g0 : (((8 : Int32) + ((4 : Int32) * l1)) + l2) = nI i1) (g1 : i1 < 384) (hq : Q none SM (xup im 1 i1 l3)) : V mX10_lays1 d b 0 [some (.ref 0), some (.int l1), some (.int l2), some (.int l3)] [] SM im Q := by
  refine V.aload_n dX10_lays1_0 rfl rfl ?_
  refine V.getR fX10_7 rfl (by rfl) (by rfl) dX10_lays1_1 ?_
  refine V.bipush (v := 8) dX10_lays1_4 (by decide) ?_
  refine V.iconst (v := 4) dX10_lays1_6 (by decide) ?_
  refine V.iload_n dX10_lays1_7 rfl rfl ?_
  refine V.imul dX10_lays1_8 ?_
  refine V.iadd dX10_lays1_9 ?_
  refine V.iload_n dX10_lays1_10 rfl rfl ?_
  refine V.iadd dX10_lays1_11 ?_
  refine V.iload_n dX10_lays1_12 rfl rfl ?_
  refine V.iast (i := i1) ⟨by rfl, by rfl⟩ g0 g1 dX10_lays1_13 ?_
  exact V.vret rfl dX10_lays1_14 hq
theorem bX10_ofDoing_0 {d : Nat} {b : Nat × Nat}  {im : XI} {Q : Option Value → XS → XI → Prop} {l1 : Int32} {l2 : Int32} {i1 : Nat} (g0 : (((32 : Int32) + ((3 : Int32) * l1)) + l2) = nI i1) (g1 : i1 < 384) (hq : Q (some (.int (im 1 i1))) SM im) : V mX10_ofDoing d b 0 [some (.ref 0), some (.int l1), some (.int l2)] [] SM im Q := by
  refine V.aload_n dX10_ofDoing_0 rfl rfl ?_
  refine V.getR fX10_7 rfl (by rfl) (by rfl) dX10_ofDoing_1 ?_
  refine V.bipush (v := 32) dX10_ofDoing_4 (by decide) ?_
  refine V.iconst (v := 3) dX10_ofDoing_6 (by decide) ?_
  refine V.iload_n dX10_ofDoing_7 rfl rfl ?_
  refine V.imul dX10_ofDoing_8 ?_
  refine V.iadd dX10_ofDoing_9 ?_
  refine V.iload_n dX10_ofDoing_10 rfl rfl ?_
  refine V.iadd dX10_ofDoing_11 ?_
  refine V.iald (i := i1) ⟨by rfl, by rfl⟩ g0 g1 dX10_ofDoing_12 ?_
  exact V.iret rfl dX10_ofDoing_13 hq
theorem bX10_laysDoing_0 {d : Nat} {b : Nat × Nat}  {im : XI} {Q : Option Value → XS → XI → Prop} {l1 : Int32} {l2 : Int32} {l3 : Int32} {i1 : Nat} (g0 : (((32 : Int32) + ((3 : Int32) * l1)) + l2) = nI i1) (g1 : i1 < 384) (hq : Q none SM (xup im 1 i1 l3)) : V mX10_laysDoing d b 0 [some (.ref 0), some (.int l1), some (.int l2), some (.int l3)] [] SM im Q := by
  refine V.aload_n dX10_laysDoing_0 rfl rfl ?_
  refine V.getR fX10_7 rfl (by rfl) (by rfl) dX10_laysDoing_1 ?_
  refine V.bipush (v := 32) dX10_laysDoing_4 (by decide) ?_
  refine V.iconst (v := 3) dX10_laysDoing_6 (by decide) ?_
  refine V.iload_n dX10_laysDoing_7 rfl rfl ?_
  refine V.imul dX10_laysDoing_8 ?_
  refine V.iadd dX10_laysDoing_9 ?_
  refine V.iload_n dX10_laysDoing_10 rfl rfl ?_
  refine V.iadd dX10_laysDoing_11 ?_
  refine V.iload_n dX10_laysDoing_12 rfl rfl ?_
  refine V.iast (i := i1) ⟨by rfl, by rfl⟩ g0 g1 dX10_laysDoing_13 ?_
  exact V.vret rfl dX10_laysDoing_14 hq
theorem bX10_change1_0 {d : Nat} {b : Nat × Nat}  {im : XI} {Q : Option Value → XS → XI → Prop} {l1 : Int32} {l2 : Int32} {i1 : Nat} (g0 : l1 = nI i1) (g1 : i1 < 384) (hq : Q (some (.int (im 1 i1))) SM (xup im 1 i1 l2)) : V mX10_change1 d b 0 [some (.ref 0), some (.int l1), some (.int l2), none] [] SM im Q := by
  refine V.aload_n dX10_change1_0 rfl rfl ?_
  refine V.getR fX10_7 rfl (by rfl) (by rfl) dX10_change1_1 ?_
  refine V.iload_n dX10_change1_4 rfl rfl ?_
  refine V.iald (i := i1) ⟨by rfl, by rfl⟩ g0 g1 dX10_change1_5 ?_
  refine V.istore_n dX10_change1_6 rfl rfl rfl ?_
  refine V.aload_n dX10_change1_7 rfl rfl ?_
  refine V.getR fX10_7 rfl (by rfl) (by rfl) dX10_change1_8 ?_
  refine V.iload_n dX10_change1_11 rfl rfl ?_
  refine V.iload_n dX10_change1_12 rfl rfl ?_
  refine V.iast (i := i1) ⟨by rfl, by rfl⟩ g0 g1 dX10_change1_13 ?_
  refine V.iload_n dX10_change1_14 rfl rfl ?_
  exact V.iret rfl dX10_change1_15 hq
theorem bX10_manyIn_0 {d : Nat} {b : Nat × Nat} {S : XS} {im : XI} {Q : Option Value → XS → XI → Prop} {l0 : Int32}  (k : V mX10_manyIn d b 4 [some (.int l0), some (.int (0 : Int32)), some (.int (0 : Int32))] [] S im Q) : V mX10_manyIn d b 0 [some (.int l0), none, none] [] S im Q := by
  refine V.iconst (v := 0) dX10_manyIn_0 (by decide) ?_
  refine V.istore_n dX10_manyIn_1 rfl rfl rfl ?_
  refine V.iconst (v := 0) dX10_manyIn_2 (by decide) ?_
  refine V.istore_n dX10_manyIn_3 rfl rfl rfl ?_
  exact k
theorem bX10_manyIn_4 {d : Nat} {b : Nat × Nat} {S : XS} {im : XI} {Q : Option Value → XS → XI → Prop} {l0 : Int32} {l1 : Int32} {l2 : Int32}  (kt : (6 : Int32) ≤ l2 → V mX10_manyIn d b 24 [some (.int l0), some (.int l1), some (.int l2)] [] S im Q) (kf : ¬ (6 : Int32) ≤ l2 → V mX10_manyIn d b 10 [some (.int l0), some (.int l1), some (.int l2)] [] S im Q) : V mX10_manyIn d b 4 [some (.int l0), some (.int l1), some (.int l2)] [] S im Q := by
  refine V.iload_n dX10_manyIn_4 rfl rfl ?_
  refine V.bipush (v := 6) dX10_manyIn_5 (by decide) ?_
  refine V.icmp_ge (tgt := 24) dX10_manyIn_7 (by decide) (fun h => ?_) (fun h => ?_)
  · exact kt h
  · exact kf h
theorem bX10_manyIn_10 {d : Nat} {b : Nat × Nat} {S : XS} {im : XI} {Q : Option Value → XS → XI → Prop} {l0 : Int32} {l1 : Int32} {l2 : Int32}  (k : V mX10_manyIn d b 4 [some (.int l0), some (.int (l1 + ((l0 >>> (l2 &&& 31)) &&& (1 : Int32)))), some (.int (l2 + (1 : Int32)))] [] S im Q) : V mX10_manyIn d b 10 [some (.int l0), some (.int l1), some (.int l2)] [] S im Q := by
  refine V.iload_n dX10_manyIn_10 rfl rfl ?_
  refine V.iload_n dX10_manyIn_11 rfl rfl ?_
  refine V.iload_n dX10_manyIn_12 rfl rfl ?_
  refine V.ishr dX10_manyIn_13 ?_
  refine V.iconst (v := 1) dX10_manyIn_14 (by decide) ?_
  refine V.iand dX10_manyIn_15 ?_
  refine V.iadd dX10_manyIn_16 ?_
  refine V.istore_n dX10_manyIn_17 rfl rfl rfl ?_
  refine V.iinc (v := (l2 + (1 : Int32))) dX10_manyIn_18 rfl rfl rfl ?_
  refine V.goto (tgt := 4) dX10_manyIn_21 (by decide) ?_
  exact k
theorem bX10_manyIn_24 {d : Nat} {b : Nat × Nat} {S : XS} {im : XI} {Q : Option Value → XS → XI → Prop} {l0 : Int32} {l1 : Int32} {l2 : Int32}  (hq : Q (some (.int l1)) S im) : V mX10_manyIn d b 24 [some (.int l0), some (.int l1), some (.int l2)] [] S im Q := by
  refine V.iload_n dX10_manyIn_24 rfl rfl ?_
  exact V.iret rfl dX10_manyIn_25 hq
theorem bX10_feed_0 {d : Nat} {b : Nat × Nat}  {im : XI} {Q : Option Value → XS → XI → Prop} {l1 : Int64} {l3 : Int32} {P : Int32 → XI → Prop}  (hs : SpI mX10_in d [.int l3, .int (1 : Int32), .int (8 : Int32)] SM im P) (k : ∀ x2 im2, P x2 im2 → V mX10_feed (d + 1) b 7 [some (.ref 0), some (.long l1), none, some (.int l3), none] [.int x2] SM im2 Q) : V mX10_feed (d + 1) b 0 [some (.ref 0), some (.long l1), none, some (.int l3), none] [] SM im Q := by
  refine V.iload_n dX10_feed_0 rfl rfl ?_
  refine V.iconst (v := 1) dX10_feed_1 (by decide) ?_
  refine V.bipush (v := 8) dX10_feed_2 (by decide) ?_
  refine V.cSI rfl vX10_in lkX10_47 sX10_in (As := [.int l3, .int (1 : Int32), .int (8 : Int32)]) rfl rfl rfl dX10_feed_4 hs (fun x2 im2 h2 => ?_)
  exact k x2 im2 h2
theorem bX10_feed_7 {d : Nat} {b : Nat × Nat}  {im : XI} {Q : Option Value → XS → XI → Prop} {l1 : Int64} {l3 : Int32} {s0 : Int32}  (kt : ¬ s0 = 0 → V mX10_feed d b 16 [some (.ref 0), some (.long l1), none, some (.int l3), none] [] SM im Q) (kf : s0 = 0 → V mX10_feed d b 10 [some (.ref 0), some (.long l1), none, some (.int l3), none] [] SM im Q) : V mX10_feed d b 7 [some (.ref 0), some (.long l1), none, some (.int l3), none] [.int s0] SM im Q := by
  refine V.if_ne (tgt := 16) dX10_feed_7 (by decide) (fun h => ?_) (fun h => ?_)
  · exact kt h
  · exact kf h
theorem bX10_feed_10 {d : Nat} {b : Nat × Nat}  {im : XI} {Q : Option Value → XS → XI → Prop} {l1 : Int64} {l3 : Int32} {P : Int32 → XI → Prop}  (hs : SpI mX10_error d [.ref 0, .int (1 : Int32)] SM im P) (k : ∀ x2 im2, P x2 im2 → V mX10_feed (d + 1) b 15 [some (.ref 0), some (.long l1), none, some (.int l3), none] [.int x2] SM im2 Q) : V mX10_feed (d + 1) b 10 [some (.ref 0), some (.long l1), none, some (.int l3), none] [] SM im Q := by
  refine V.aload_n dX10_feed_10 rfl rfl ?_
  refine V.iconst (v := 1) dX10_feed_11 (by decide) ?_
  refine V.cVI rfl vX10_error lkX10_51 wX10_error (ci := 10) rfl (by rfl) (As := [.int (1 : Int32)]) rfl rfl rfl dX10_feed_12 hs (fun x2 im2 h2 => ?_)
  exact k x2 im2 h2
theorem bX10_feed_15 {d : Nat} {b : Nat × Nat}  {im : XI} {Q : Option Value → XS → XI → Prop} {l1 : Int64} {l3 : Int32} {s0 : Int32}  (hq : Q (some (.int s0)) SM im) : V mX10_feed d b 15 [some (.ref 0), some (.long l1), none, some (.int l3), none] [.int s0] SM im Q := by
  exact V.iret rfl dX10_feed_15 hq
theorem bX10_feed_16 {d : Nat} {b : Nat × Nat}  {im : XI} {Q : Option Value → XS → XI → Prop} {l1 : Int64} {l3 : Int32}  (kt : ((im 1 2) + l3) ≤ (60 : Int32) → V mX10_feed d b 35 [some (.ref 0), some (.long l1), none, some (.int l3), none] [] SM im Q) (kf : ¬ ((im 1 2) + l3) ≤ (60 : Int32) → V mX10_feed d b 29 [some (.ref 0), some (.long l1), none, some (.int l3), none] [] SM im Q) : V mX10_feed d b 16 [some (.ref 0), some (.long l1), none, some (.int l3), none] [] SM im Q := by
  refine V.aload_n dX10_feed_16 rfl rfl ?_
  refine V.getR fX10_7 rfl (by rfl) (by rfl) dX10_feed_17 ?_
  refine V.iconst (v := 2) dX10_feed_20 (by decide) ?_
  refine V.iald (i := 2) ⟨by rfl, by rfl⟩ (by rfl) (by decide) dX10_feed_21 ?_
  refine V.iload_n dX10_feed_22 rfl rfl ?_
  refine V.iadd dX10_feed_23 ?_
  refine V.bipush (v := 60) dX10_feed_24 (by decide) ?_
  refine V.icmp_le (tgt := 35) dX10_feed_26 (by decide) (fun h => ?_) (fun h => ?_)
  · exact kt h
  · exact kf h
theorem bX10_feed_29 {d : Nat} {b : Nat × Nat}  {im : XI} {Q : Option Value → XS → XI → Prop} {l1 : Int64} {l3 : Int32} {P : Int32 → XI → Prop}  (hs : SpI mX10_error d [.ref 0, .int (4 : Int32)] SM im P) (k : ∀ x2 im2, P x2 im2 → V mX10_feed (d + 1) b 34 [some (.ref 0), some (.long l1), none, some (.int l3), none] [.int x2] SM im2 Q) : V mX10_feed (d + 1) b 29 [some (.ref 0), some (.long l1), none, some (.int l3), none] [] SM im Q := by
  refine V.aload_n dX10_feed_29 rfl rfl ?_
  refine V.iconst (v := 4) dX10_feed_30 (by decide) ?_
  refine V.cVI rfl vX10_error lkX10_51 wX10_error (ci := 10) rfl (by rfl) (As := [.int (4 : Int32)]) rfl rfl rfl dX10_feed_31 hs (fun x2 im2 h2 => ?_)
  exact k x2 im2 h2
theorem bX10_feed_34 {d : Nat} {b : Nat × Nat}  {im : XI} {Q : Option Value → XS → XI → Prop} {l1 : Int64} {l3 : Int32} {s0 : Int32}  (hq : Q (some (.int s0)) SM im) : V mX10_feed d b 34 [some (.ref 0), some (.long l1), none, some (.int l3), none] [.int s0] SM im Q := by
  exact V.iret rfl dX10_feed_34 hq
theorem bX10_feed_35 {d : Nat} {b : Nat × Nat}  {im : XI} {Q : Option Value → XS → XI → Prop} {l1 : Int64} {l3 : Int32}  (k : V mX10_feed d b 38 [some (.ref 0), some (.long l1), none, some (.int l3), some (.int (0 : Int32))] [] SM im Q) : V mX10_feed d b 35 [some (.ref 0), some (.long l1), none, some (.int l3), none] [] SM im Q := by
  refine V.iconst (v := 0) dX10_feed_35 (by decide) ?_
  refine V.istore dX10_feed_36 rfl rfl ?_
  exact k
theorem bX10_feed_38 {d : Nat} {b : Nat × Nat}  {im : XI} {Q : Option Value → XS → XI → Prop} {l1 : Int64} {l3 : Int32} {l4 : Int32}  (kt : l3 ≤ l4 → V mX10_feed d b 87 [some (.ref 0), some (.long l1), none, some (.int l3), some (.int l4)] [] SM im Q) (kf : ¬ l3 ≤ l4 → V mX10_feed d b 44 [some (.ref 0), some (.long l1), none, some (.int l3), some (.int l4)] [] SM im Q) : V mX10_feed d b 38 [some (.ref 0), some (.long l1), none, some (.int l3), some (.int l4)] [] SM im Q := by
  refine V.iload dX10_feed_38 rfl ?_
  refine V.iload_n dX10_feed_40 rfl rfl ?_
  refine V.icmp_ge (tgt := 87) dX10_feed_41 (by decide) (fun h => ?_) (fun h => ?_)
  · exact kt h
  · exact kf h
theorem bX10_feed_44 {d : Nat} {b : Nat × Nat}  {im : XI} {Q : Option Value → XS → XI → Prop} {l1 : Int64} {l3 : Int32} {l4 : Int32} {i1 : Nat} (g0 : ((300 : Int32) + (im 1 2)) = nI i1) (g1 : i1 < 384) (k : V mX10_feed d b 38 [some (.ref 0), some (.long l1), none, some (.int l3), some (.int (l4 + (1 : Int32)))] [] SM (xup (xup im 1 i1 (((l1 >>> ((((8 : Int32) * l4)).toInt64 &&& 63)) &&& (255 : Int64))).toInt32) 1 2 (((xup im 1 i1 (((l1 >>> ((((8 : Int32) * l4)).toInt64 &&& 63)) &&& (255 : Int64))).toInt32) 1 2) + (1 : Int32))) Q) : V mX10_feed d b 44 [some (.ref 0), some (.long l1), none, some (.int l3), some (.int l4)] [] SM im Q := by
  refine V.aload_n dX10_feed_44 rfl rfl ?_
  refine V.getR fX10_7 rfl (by rfl) (by rfl) dX10_feed_45 ?_
  refine V.sipush (v := 300) dX10_feed_48 (by decide) ?_
  refine V.aload_n dX10_feed_51 rfl rfl ?_
  refine V.getR fX10_7 rfl (by rfl) (by rfl) dX10_feed_52 ?_
  refine V.iconst (v := 2) dX10_feed_55 (by decide) ?_
  refine V.iald (i := 2) ⟨by rfl, by rfl⟩ (by rfl) (by decide) dX10_feed_56 ?_
  refine V.iadd dX10_feed_57 ?_
  refine V.lload_n dX10_feed_58 rfl rfl ?_
  refine V.bipush (v := 8) dX10_feed_59 (by decide) ?_
  refine V.iload dX10_feed_61 rfl ?_
  refine V.imul dX10_feed_63 ?_
  refine V.lshr dX10_feed_64 ?_
  refine V.ldc2 klX10_55 dX10_feed_65 ?_
  refine V.land dX10_feed_68 ?_
  refine V.l2i dX10_feed_69 ?_
  refine V.iast (i := i1) ⟨by rfl, by rfl⟩ g0 g1 dX10_feed_70 ?_
  refine V.aload_n dX10_feed_71 rfl rfl ?_
  refine V.getR fX10_7 rfl (by rfl) (by rfl) dX10_feed_72 ?_
  refine V.iconst (v := 2) dX10_feed_75 (by decide) ?_
  refine V.dup2 dX10_feed_76 rfl rfl ?_
  refine V.iald (i := 2) ⟨by rfl, by rfl⟩ (by rfl) (by decide) dX10_feed_77 ?_
  refine V.iconst (v := 1) dX10_feed_78 (by decide) ?_
  refine V.iadd dX10_feed_79 ?_
  refine V.iast (i := 2) ⟨by rfl, by rfl⟩ (by rfl) (by decide) dX10_feed_80 ?_
  refine V.iinc (v := (l4 + (1 : Int32))) dX10_feed_81 rfl rfl rfl ?_
  refine V.goto (tgt := 38) dX10_feed_84 (by decide) ?_
  exact k
theorem bX10_feed_87 {d : Nat} {b : Nat × Nat}  {im : XI} {Q : Option Value → XS → XI → Prop} {l1 : Int64} {l3 : Int32} {l4 : Int32}  (hq : Q (some (.int (im 1 2))) SM im) : V mX10_feed d b 87 [some (.ref 0), some (.long l1), none, some (.int l3), some (.int l4)] [] SM im Q := by
  refine V.aload_n dX10_feed_87 rfl rfl ?_
  refine V.getR fX10_7 rfl (by rfl) (by rfl) dX10_feed_88 ?_
  refine V.iconst (v := 2) dX10_feed_91 (by decide) ?_
  refine V.iald (i := 2) ⟨by rfl, by rfl⟩ (by rfl) (by decide) dX10_feed_92 ?_
  exact V.iret rfl dX10_feed_93 hq
theorem bX10_look_0 {d : Nat} {b : Nat × Nat}  {im : XI} {Q : Option Value → XS → XI → Prop}   (kt : (im 1 2) ≤ (im 0 5) → V mX10_look d b 29 [some (.ref 0)] [] SM im Q) (kf : ¬ (im 1 2) ≤ (im 0 5) → V mX10_look d b 13 [some (.ref 0)] [] SM im Q) : V mX10_look d b 0 [some (.ref 0)] [] SM im Q := by
  refine V.aload_n dX10_look_0 rfl rfl ?_
  refine V.getI fX10_57 rfl (by rfl) dX10_look_1 ?_
  refine V.aload_n dX10_look_4 rfl rfl ?_
  refine V.getR fX10_7 rfl (by rfl) (by rfl) dX10_look_5 ?_
  refine V.iconst (v := 2) dX10_look_8 (by decide) ?_
  refine V.iald (i := 2) ⟨by rfl, by rfl⟩ (by rfl) (by decide) dX10_look_9 ?_
  refine V.icmp_ge (tgt := 29) dX10_look_10 (by decide) (fun h => ?_) (fun h => ?_)
  · exact kt h
  · exact kf h
theorem bX10_look_13 {d : Nat} {b : Nat × Nat}  {im : XI} {Q : Option Value → XS → XI → Prop} {i1 : Nat} (g0 : ((300 : Int32) + (im 0 5)) = nI i1) (g1 : i1 < 384) (k : V mX10_look d b 30 [some (.ref 0)] [.int (im 1 i1)] SM im Q) : V mX10_look d b 13 [some (.ref 0)] [] SM im Q := by
  refine V.aload_n dX10_look_13 rfl rfl ?_
  refine V.getR fX10_7 rfl (by rfl) (by rfl) dX10_look_14 ?_
  refine V.sipush (v := 300) dX10_look_17 (by decide) ?_
  refine V.aload_n dX10_look_20 rfl rfl ?_
  refine V.getI fX10_57 rfl (by rfl) dX10_look_21 ?_
  refine V.iadd dX10_look_24 ?_
  refine V.iald (i := i1) ⟨by rfl, by rfl⟩ g0 g1 dX10_look_25 ?_
  refine V.goto (tgt := 30) dX10_look_26 (by decide) ?_
  exact k
theorem bX10_look_29 {d : Nat} {b : Nat × Nat}  {im : XI} {Q : Option Value → XS → XI → Prop}   (k : V mX10_look d b 30 [some (.ref 0)] [.int (-1 : Int32)] SM im Q) : V mX10_look d b 29 [some (.ref 0)] [] SM im Q := by
  refine V.iconst (v := -1) dX10_look_29 (by decide) ?_
  exact k
theorem bX10_look_30 {d : Nat} {b : Nat × Nat}  {im : XI} {Q : Option Value → XS → XI → Prop} {s0 : Int32}  (hq : Q (some (.int s0)) SM im) : V mX10_look d b 30 [some (.ref 0)] [.int s0] SM im Q := by
  exact V.iret rfl dX10_look_30 hq
theorem bX10_isName_0 {d : Nat} {b : Nat × Nat}  {im : XI} {Q : Option Value → XS → XI → Prop} {l1 : Int32}  (kt : ¬ (im 0 8) = 0 → V mX10_isName d b 13 [some (.ref 0), some (.int l1)] [.int l1] SM im Q) (kf : (im 0 8) = 0 → V mX10_isName d b 8 [some (.ref 0), some (.int l1)] [.int l1] SM im Q) : V mX10_isName d b 0 [some (.ref 0), some (.int l1)] [] SM im Q := by
  refine V.iload_n dX10_isName_0 rfl rfl ?_
  refine V.aload_n dX10_isName_1 rfl rfl ?_
  refine V.getI fX10_61 rfl (by rfl) dX10_isName_2 ?_
  refine V.if_ne (tgt := 13) dX10_isName_5 (by decide) (fun h => ?_) (fun h => ?_)
  · exact kt h
  · exact kf h
theorem bX10_isName_8 {d : Nat} {b : Nat × Nat}  {im : XI} {Q : Option Value → XS → XI → Prop} {l1 : Int32} {s0 : Int32}  (k : V mX10_isName d b 15 [some (.ref 0), some (.int l1)] [.int (114 : Int32), .int s0] SM im Q) : V mX10_isName d b 8 [some (.ref 0), some (.int l1)] [.int s0] SM im Q := by
  refine V.bipush (v := 114) dX10_isName_8 (by decide) ?_
  refine V.goto (tgt := 15) dX10_isName_10 (by decide) ?_
  exact k
theorem bX10_isName_13 {d : Nat} {b : Nat × Nat}  {im : XI} {Q : Option Value → XS → XI → Prop} {l1 : Int32} {s0 : Int32}  (k : V mX10_isName d b 15 [some (.ref 0), some (.int l1)] [.int (112 : Int32), .int s0] SM im Q) : V mX10_isName d b 13 [some (.ref 0), some (.int l1)] [.int s0] SM im Q := by
  refine V.bipush (v := 112) dX10_isName_13 (by decide) ?_
  exact k
theorem bX10_isName_15 {d : Nat} {b : Nat × Nat}  {im : XI} {Q : Option Value → XS → XI → Prop} {l1 : Int32} {s0 : Int32} {s1 : Int32}  (kt : ¬ s0 = s1 → V mX10_isName d b 20 [some (.ref 0), some (.int l1)] [] SM im Q) (kf : s0 = s1 → V mX10_isName d b 18 [some (.ref 0), some (.int l1)] [] SM im Q) : V mX10_isName d b 15 [some (.ref 0), some (.int l1)] [.int s1, .int s0] SM im Q := by
  refine V.icmp_ne (tgt := 20) dX10_isName_15 (by decide) (fun h => ?_) (fun h => ?_)
  · exact kt h
  · exact kf h
theorem bX10_isName_18 {d : Nat} {b : Nat × Nat}  {im : XI} {Q : Option Value → XS → XI → Prop} {l1 : Int32}  (hq : Q (some (.int (1 : Int32))) SM im) : V mX10_isName d b 18 [some (.ref 0), some (.int l1)] [] SM im Q := by
  refine V.iconst (v := 1) dX10_isName_18 (by decide) ?_
  exact V.zret rfl (by decide) dX10_isName_19 hq
theorem bX10_isName_20 {d : Nat} {b : Nat × Nat}  {im : XI} {Q : Option Value → XS → XI → Prop} {l1 : Int32}  (kt : ¬ (im 0 8) = 0 → V mX10_isName d b 47 [some (.ref 0), some (.int l1)] [] SM im Q) (kf : (im 0 8) = 0 → V mX10_isName d b 27 [some (.ref 0), some (.int l1)] [] SM im Q) : V mX10_isName d b 20 [some (.ref 0), some (.int l1)] [] SM im Q := by
  refine V.aload_n dX10_isName_20 rfl rfl ?_
  refine V.getI fX10_61 rfl (by rfl) dX10_isName_21 ?_
  refine V.if_ne (tgt := 47) dX10_isName_24 (by decide) (fun h => ?_) (fun h => ?_)
  · exact kt h
  · exact kf h
theorem bX10_isName_27 {d : Nat} {b : Nat × Nat}  {im : XI} {Q : Option Value → XS → XI → Prop} {l1 : Int32}  (kt : l1 = (115 : Int32) → V mX10_isName d b 39 [some (.ref 0), some (.int l1)] [] SM im Q) (kf : ¬ l1 = (115 : Int32) → V mX10_isName d b 33 [some (.ref 0), some (.int l1)] [] SM im Q) : V mX10_isName d b 27 [some (.ref 0), some (.int l1)] [] SM im Q := by
  refine V.iload_n dX10_isName_27 rfl rfl ?_
  refine V.bipush (v := 115) dX10_isName_28 (by decide) ?_
  refine V.icmp_eq (tgt := 39) dX10_isName_30 (by decide) (fun h => ?_) (fun h => ?_)
  · exact kt h
  · exact kf h
theorem bX10_isName_33 {d : Nat} {b : Nat × Nat}  {im : XI} {Q : Option Value → XS → XI → Prop} {l1 : Int32}  (kt : ¬ l1 = (116 : Int32) → V mX10_isName d b 43 [some (.ref 0), some (.int l1)] [] SM im Q) (kf : l1 = (116 : Int32) → V mX10_isName d b 39 [some (.ref 0), some (.int l1)] [] SM im Q) : V mX10_isName d b 33 [some (.ref 0), some (.int l1)] [] SM im Q := by
  refine V.iload_n dX10_isName_33 rfl rfl ?_
  refine V.bipush (v := 116) dX10_isName_34 (by decide) ?_
  refine V.icmp_ne (tgt := 43) dX10_isName_36 (by decide) (fun h => ?_) (fun h => ?_)
  · exact kt h
  · exact kf h
theorem bX10_isName_39 {d : Nat} {b : Nat × Nat}  {im : XI} {Q : Option Value → XS → XI → Prop} {l1 : Int32}  (k : V mX10_isName d b 64 [some (.ref 0), some (.int l1)] [.int (1 : Int32)] SM im Q) : V mX10_isName d b 39 [some (.ref 0), some (.int l1)] [] SM im Q := by
  refine V.iconst (v := 1) dX10_isName_39 (by decide) ?_
  refine V.goto (tgt := 64) dX10_isName_40 (by decide) ?_
  exact k
theorem bX10_isName_43 {d : Nat} {b : Nat × Nat}  {im : XI} {Q : Option Value → XS → XI → Prop} {l1 : Int32}  (k : V mX10_isName d b 64 [some (.ref 0), some (.int l1)] [.int (0 : Int32)] SM im Q) : V mX10_isName d b 43 [some (.ref 0), some (.int l1)] [] SM im Q := by
  refine V.iconst (v := 0) dX10_isName_43 (by decide) ?_
  refine V.goto (tgt := 64) dX10_isName_44 (by decide) ?_
  exact k
theorem bX10_isName_47 {d : Nat} {b : Nat × Nat}  {im : XI} {Q : Option Value → XS → XI → Prop} {l1 : Int32}  (kt : l1 = (111 : Int32) → V mX10_isName d b 59 [some (.ref 0), some (.int l1)] [] SM im Q) (kf : ¬ l1 = (111 : Int32) → V mX10_isName d b 53 [some (.ref 0), some (.int l1)] [] SM im Q) : V mX10_isName d b 47 [some (.ref 0), some (.int l1)] [] SM im Q := by
  refine V.iload_n dX10_isName_47 rfl rfl ?_
  refine V.bipush (v := 111) dX10_isName_48 (by decide) ?_
  refine V.icmp_eq (tgt := 59) dX10_isName_50 (by decide) (fun h => ?_) (fun h => ?_)
  · exact kt h
  · exact kf h
theorem bX10_isName_53 {d : Nat} {b : Nat × Nat}  {im : XI} {Q : Option Value → XS → XI → Prop} {l1 : Int32}  (kt : ¬ l1 = (108 : Int32) → V mX10_isName d b 63 [some (.ref 0), some (.int l1)] [] SM im Q) (kf : l1 = (108 : Int32) → V mX10_isName d b 59 [some (.ref 0), some (.int l1)] [] SM im Q) : V mX10_isName d b 53 [some (.ref 0), some (.int l1)] [] SM im Q := by
  refine V.iload_n dX10_isName_53 rfl rfl ?_
  refine V.bipush (v := 108) dX10_isName_54 (by decide) ?_
  refine V.icmp_ne (tgt := 63) dX10_isName_56 (by decide) (fun h => ?_) (fun h => ?_)
  · exact kt h
  · exact kf h
theorem bX10_isName_59 {d : Nat} {b : Nat × Nat}  {im : XI} {Q : Option Value → XS → XI → Prop} {l1 : Int32}  (k : V mX10_isName d b 64 [some (.ref 0), some (.int l1)] [.int (1 : Int32)] SM im Q) : V mX10_isName d b 59 [some (.ref 0), some (.int l1)] [] SM im Q := by
  refine V.iconst (v := 1) dX10_isName_59 (by decide) ?_
  refine V.goto (tgt := 64) dX10_isName_60 (by decide) ?_
  exact k
theorem bX10_isName_63 {d : Nat} {b : Nat × Nat}  {im : XI} {Q : Option Value → XS → XI → Prop} {l1 : Int32}  (k : V mX10_isName d b 64 [some (.ref 0), some (.int l1)] [.int (0 : Int32)] SM im Q) : V mX10_isName d b 63 [some (.ref 0), some (.int l1)] [] SM im Q := by
  refine V.iconst (v := 0) dX10_isName_63 (by decide) ?_
  exact k
theorem bX10_isName_64 {d : Nat} {b : Nat × Nat}  {im : XI} {Q : Option Value → XS → XI → Prop} {l1 : Int32} {s0 : Int32} (g0 : s0 = 0 ∨ s0 = 1) (hq : Q (some (.int s0)) SM im) : V mX10_isName d b 64 [some (.ref 0), some (.int l1)] [.int s0] SM im Q := by
  exact V.zret rfl g0 dX10_isName_64 hq
theorem bX10_step1_0 {d : Nat} {b : Nat × Nat}  {im : XI} {Q : Option Value → XS → XI → Prop} {l1 : Int32} {l2 : Int32} {i1 : Nat} {i2 : Nat} (g0 : ((2 : Int32) * (im 0 7)) = nI i1) (g1 : i1 < 124) (g2 : (((2 : Int32) * ((xup im 5 i1 l1) 0 7)) + (1 : Int32)) = nI i2) (g3 : i2 < 124) (hq : Q none SM (xup (xup (xup im 5 i1 l1) 5 i2 l2) 0 7 (((xup (xup im 5 i1 l1) 5 i2 l2) 0 7) + (1 : Int32)))) : V mX10_step1 d b 0 [some (.ref 0), some (.int l1), some (.int l2)] [] SM im Q := by
  refine V.aload_n dX10_step1_0 rfl rfl ?_
  refine V.getR fX10_22 rfl (by rfl) (by rfl) dX10_step1_1 ?_
  refine V.iconst (v := 2) dX10_step1_4 (by decide) ?_
  refine V.aload_n dX10_step1_5 rfl rfl ?_
  refine V.getI fX10_64 rfl (by rfl) dX10_step1_6 ?_
  refine V.imul dX10_step1_9 ?_
  refine V.iload_n dX10_step1_10 rfl rfl ?_
  refine V.iast (i := i1) ⟨by rfl, by rfl⟩ g0 g1 dX10_step1_11 ?_
  refine V.aload_n dX10_step1_12 rfl rfl ?_
  refine V.getR fX10_22 rfl (by rfl) (by rfl) dX10_step1_13 ?_
  refine V.iconst (v := 2) dX10_step1_16 (by decide) ?_
  refine V.aload_n dX10_step1_17 rfl rfl ?_
  refine V.getI fX10_64 rfl (by rfl) dX10_step1_18 ?_
  refine V.imul dX10_step1_21 ?_
  refine V.iconst (v := 1) dX10_step1_22 (by decide) ?_
  refine V.iadd dX10_step1_23 ?_
  refine V.iload_n dX10_step1_24 rfl rfl ?_
  refine V.iast (i := i2) ⟨by rfl, by rfl⟩ g2 g3 dX10_step1_25 ?_
  refine V.aload_n dX10_step1_26 rfl rfl ?_
  refine V.dup dX10_step1_27 rfl ?_
  refine V.getI fX10_64 rfl (by rfl) dX10_step1_28 ?_
  refine V.iconst (v := 1) dX10_step1_31 (by decide) ?_
  refine V.iadd dX10_step1_32 ?_
  refine V.putI fX10_64 (fun h => by cases h) rfl (by rfl) dX10_step1_33 ?_
  exact V.vret rfl dX10_step1_36 hq
theorem bX10_whole_0 {d : Nat} {b : Nat × Nat}  {im : XI} {Q : Option Value → XS → XI → Prop} {P : Int32 → XI → Prop}  (hs : SpI mX10_both d [.ref 0] SM im P) (k : ∀ x2 im2, P x2 im2 → V mX10_whole (d + 1) b 4 [some (.ref 0)] [.int x2] SM im2 Q) : V mX10_whole (d + 1) b 0 [some (.ref 0)] [] SM im Q := by
  refine V.aload_n dX10_whole_0 rfl rfl ?_
  refine V.cVI rfl vX10_both lkX10_67 wX10_both (ci := 10) rfl (by rfl) (As := []) rfl rfl rfl dX10_whole_1 hs (fun x2 im2 h2 => ?_)
  exact k x2 im2 h2
theorem bX10_whole_4 {d : Nat} {b : Nat × Nat}  {im : XI} {Q : Option Value → XS → XI → Prop} {s0 : Int32}  (kt : ¬ s0 = 0 → V mX10_whole d b 9 [some (.ref 0)] [] SM im Q) (kf : s0 = 0 → V mX10_whole d b 7 [some (.ref 0)] [] SM im Q) : V mX10_whole d b 4 [some (.ref 0)] [.int s0] SM im Q := by
  refine V.if_ne (tgt := 9) dX10_whole_4 (by decide) (fun h => ?_) (fun h => ?_)
  · exact kt h
  · exact kf h
theorem bX10_whole_7 {d : Nat} {b : Nat × Nat}  {im : XI} {Q : Option Value → XS → XI → Prop}   (hq : Q (some (.int (0 : Int32))) SM im) : V mX10_whole d b 7 [some (.ref 0)] [] SM im Q := by
  refine V.iconst (v := 0) dX10_whole_7 (by decide) ?_
  exact V.zret rfl (by decide) dX10_whole_8 hq
theorem bX10_whole_9 {d : Nat} {b : Nat × Nat}  {im : XI} {Q : Option Value → XS → XI → Prop} {P : Int32 → XI → Prop}  (hs : SpI mX10_look d [.ref 0] SM im P) (k : ∀ x2 im2, P x2 im2 → V mX10_whole (d + 1) b 13 [some (.ref 0)] [.int x2] SM im2 Q) : V mX10_whole (d + 1) b 9 [some (.ref 0)] [] SM im Q := by
  refine V.aload_n dX10_whole_9 rfl rfl ?_
  refine V.cVI rfl vX10_look lkX10_71 wX10_look (ci := 10) rfl (by rfl) (As := []) rfl rfl rfl dX10_whole_10 hs (fun x2 im2 h2 => ?_)
  exact k x2 im2 h2
theorem bX10_whole_13 {d : Nat} {b : Nat × Nat}  {im : XI} {Q : Option Value → XS → XI → Prop} {s0 : Int32}  (kt : ¬ s0 = (124 : Int32) → V mX10_whole d b 47 [some (.ref 0)] [] SM im Q) (kf : s0 = (124 : Int32) → V mX10_whole d b 18 [some (.ref 0)] [] SM im Q) : V mX10_whole d b 13 [some (.ref 0)] [.int s0] SM im Q := by
  refine V.bipush (v := 124) dX10_whole_13 (by decide) ?_
  refine V.icmp_ne (tgt := 47) dX10_whole_15 (by decide) (fun h => ?_) (fun h => ?_)
  · exact kt h
  · exact kf h
theorem bX10_whole_18 {d : Nat} {b : Nat × Nat}  {im : XI} {Q : Option Value → XS → XI → Prop} {P : Int32 → XI → Prop}  (hs : SpI mX10_both d [.ref 0] SM (xup im 0 5 ((im 0 5) + (1 : Int32))) P) (k : ∀ x2 im2, P x2 im2 → V mX10_whole (d + 1) b 32 [some (.ref 0)] [.int x2] SM im2 Q) : V mX10_whole (d + 1) b 18 [some (.ref 0)] [] SM im Q := by
  refine V.aload_n dX10_whole_18 rfl rfl ?_
  refine V.dup dX10_whole_19 rfl ?_
  refine V.getI fX10_57 rfl (by rfl) dX10_whole_20 ?_
  refine V.iconst (v := 1) dX10_whole_23 (by decide) ?_
  refine V.iadd dX10_whole_24 ?_
  refine V.putI fX10_57 (fun h => by cases h) rfl (by rfl) dX10_whole_25 ?_
  refine V.aload_n dX10_whole_28 rfl rfl ?_
  refine V.cVI rfl vX10_both lkX10_67 wX10_both (ci := 10) rfl (by rfl) (As := []) rfl rfl rfl dX10_whole_29 hs (fun x2 im2 h2 => ?_)
  exact k x2 im2 h2
theorem bX10_whole_32 {d : Nat} {b : Nat × Nat}  {im : XI} {Q : Option Value → XS → XI → Prop} {s0 : Int32}  (kt : ¬ s0 = 0 → V mX10_whole d b 37 [some (.ref 0)] [] SM im Q) (kf : s0 = 0 → V mX10_whole d b 35 [some (.ref 0)] [] SM im Q) : V mX10_whole d b 32 [some (.ref 0)] [.int s0] SM im Q := by
  refine V.if_ne (tgt := 37) dX10_whole_32 (by decide) (fun h => ?_) (fun h => ?_)
  · exact kt h
  · exact kf h
theorem bX10_whole_35 {d : Nat} {b : Nat × Nat}  {im : XI} {Q : Option Value → XS → XI → Prop}   (hq : Q (some (.int (0 : Int32))) SM im) : V mX10_whole d b 35 [some (.ref 0)] [] SM im Q := by
  refine V.iconst (v := 0) dX10_whole_35 (by decide) ?_
  exact V.zret rfl (by decide) dX10_whole_36 hq
theorem bX10_whole_37 {d : Nat} {b : Nat × Nat}  {im : XI} {Q : Option Value → XS → XI → Prop} {P : XI → Prop}  (hs : SpV mX10_step1 d [.ref 0, .int (3 : Int32), .int (124 : Int32)] SM im P) (k : ∀ im2, P im2 → V mX10_whole (d + 1) b 44 [some (.ref 0)] [] SM im2 Q) : V mX10_whole (d + 1) b 37 [some (.ref 0)] [] SM im Q := by
  refine V.aload_n dX10_whole_37 rfl rfl ?_
  refine V.iconst (v := 3) dX10_whole_38 (by decide) ?_
  refine V.bipush (v := 124) dX10_whole_39 (by decide) ?_
  refine V.cVV rfl vX10_step1 lkX10_75 wX10_step1 (ci := 10) rfl (by rfl) (As := [.int (3 : Int32), .int (124 : Int32)]) rfl rfl rfl dX10_whole_41 hs (fun im2 h2 => ?_)
  exact k im2 h2
theorem bX10_whole_44 {d : Nat} {b : Nat × Nat}  {im : XI} {Q : Option Value → XS → XI → Prop}   (k : V mX10_whole d b 9 [some (.ref 0)] [] SM im Q) : V mX10_whole d b 44 [some (.ref 0)] [] SM im Q := by
  refine V.goto (tgt := 9) dX10_whole_44 (by decide) ?_
  exact k
theorem bX10_whole_47 {d : Nat} {b : Nat × Nat}  {im : XI} {Q : Option Value → XS → XI → Prop}   (hq : Q (some (.int (1 : Int32))) SM im) : V mX10_whole d b 47 [some (.ref 0)] [] SM im Q := by
  refine V.iconst (v := 1) dX10_whole_47 (by decide) ?_
  exact V.zret rfl (by decide) dX10_whole_48 hq
theorem bX10_both_0 {d : Nat} {b : Nat × Nat}  {im : XI} {Q : Option Value → XS → XI → Prop} {P : Int32 → XI → Prop}  (hs : SpI mX10_compared d [.ref 0] SM im P) (k : ∀ x2 im2, P x2 im2 → V mX10_both (d + 1) b 4 [some (.ref 0)] [.int x2] SM im2 Q) : V mX10_both (d + 1) b 0 [some (.ref 0)] [] SM im Q := by
  refine V.aload_n dX10_both_0 rfl rfl ?_
  refine V.cVI rfl vX10_compared lkX10_79 wX10_compared (ci := 10) rfl (by rfl) (As := []) rfl rfl rfl dX10_both_1 hs (fun x2 im2 h2 => ?_)
  exact k x2 im2 h2
theorem bX10_both_4 {d : Nat} {b : Nat × Nat}  {im : XI} {Q : Option Value → XS → XI → Prop} {s0 : Int32}  (kt : ¬ s0 = 0 → V mX10_both d b 9 [some (.ref 0)] [] SM im Q) (kf : s0 = 0 → V mX10_both d b 7 [some (.ref 0)] [] SM im Q) : V mX10_both d b 4 [some (.ref 0)] [.int s0] SM im Q := by
  refine V.if_ne (tgt := 9) dX10_both_4 (by decide) (fun h => ?_) (fun h => ?_)
  · exact kt h
  · exact kf h
theorem bX10_both_7 {d : Nat} {b : Nat × Nat}  {im : XI} {Q : Option Value → XS → XI → Prop}   (hq : Q (some (.int (0 : Int32))) SM im) : V mX10_both d b 7 [some (.ref 0)] [] SM im Q := by
  refine V.iconst (v := 0) dX10_both_7 (by decide) ?_
  exact V.zret rfl (by decide) dX10_both_8 hq
theorem bX10_both_9 {d : Nat} {b : Nat × Nat}  {im : XI} {Q : Option Value → XS → XI → Prop} {P : Int32 → XI → Prop}  (hs : SpI mX10_look d [.ref 0] SM im P) (k : ∀ x2 im2, P x2 im2 → V mX10_both (d + 1) b 13 [some (.ref 0)] [.int x2] SM im2 Q) : V mX10_both (d + 1) b 9 [some (.ref 0)] [] SM im Q := by
  refine V.aload_n dX10_both_9 rfl rfl ?_
  refine V.cVI rfl vX10_look lkX10_71 wX10_look (ci := 10) rfl (by rfl) (As := []) rfl rfl rfl dX10_both_10 hs (fun x2 im2 h2 => ?_)
  exact k x2 im2 h2
theorem bX10_both_13 {d : Nat} {b : Nat × Nat}  {im : XI} {Q : Option Value → XS → XI → Prop} {s0 : Int32}  (kt : ¬ s0 = (38 : Int32) → V mX10_both d b 47 [some (.ref 0)] [] SM im Q) (kf : s0 = (38 : Int32) → V mX10_both d b 18 [some (.ref 0)] [] SM im Q) : V mX10_both d b 13 [some (.ref 0)] [.int s0] SM im Q := by
  refine V.bipush (v := 38) dX10_both_13 (by decide) ?_
  refine V.icmp_ne (tgt := 47) dX10_both_15 (by decide) (fun h => ?_) (fun h => ?_)
  · exact kt h
  · exact kf h
theorem bX10_both_18 {d : Nat} {b : Nat × Nat}  {im : XI} {Q : Option Value → XS → XI → Prop} {P : Int32 → XI → Prop}  (hs : SpI mX10_compared d [.ref 0] SM (xup im 0 5 ((im 0 5) + (1 : Int32))) P) (k : ∀ x2 im2, P x2 im2 → V mX10_both (d + 1) b 32 [some (.ref 0)] [.int x2] SM im2 Q) : V mX10_both (d + 1) b 18 [some (.ref 0)] [] SM im Q := by
  refine V.aload_n dX10_both_18 rfl rfl ?_
  refine V.dup dX10_both_19 rfl ?_
  refine V.getI fX10_57 rfl (by rfl) dX10_both_20 ?_
  refine V.iconst (v := 1) dX10_both_23 (by decide) ?_
  refine V.iadd dX10_both_24 ?_
  refine V.putI fX10_57 (fun h => by cases h) rfl (by rfl) dX10_both_25 ?_
  refine V.aload_n dX10_both_28 rfl rfl ?_
  refine V.cVI rfl vX10_compared lkX10_79 wX10_compared (ci := 10) rfl (by rfl) (As := []) rfl rfl rfl dX10_both_29 hs (fun x2 im2 h2 => ?_)
  exact k x2 im2 h2
theorem bX10_both_32 {d : Nat} {b : Nat × Nat}  {im : XI} {Q : Option Value → XS → XI → Prop} {s0 : Int32}  (kt : ¬ s0 = 0 → V mX10_both d b 37 [some (.ref 0)] [] SM im Q) (kf : s0 = 0 → V mX10_both d b 35 [some (.ref 0)] [] SM im Q) : V mX10_both d b 32 [some (.ref 0)] [.int s0] SM im Q := by
  refine V.if_ne (tgt := 37) dX10_both_32 (by decide) (fun h => ?_) (fun h => ?_)
  · exact kt h
  · exact kf h
theorem bX10_both_35 {d : Nat} {b : Nat × Nat}  {im : XI} {Q : Option Value → XS → XI → Prop}   (hq : Q (some (.int (0 : Int32))) SM im) : V mX10_both d b 35 [some (.ref 0)] [] SM im Q := by
  refine V.iconst (v := 0) dX10_both_35 (by decide) ?_
  exact V.zret rfl (by decide) dX10_both_36 hq
theorem bX10_both_37 {d : Nat} {b : Nat × Nat}  {im : XI} {Q : Option Value → XS → XI → Prop} {P : XI → Prop}  (hs : SpV mX10_step1 d [.ref 0, .int (3 : Int32), .int (38 : Int32)] SM im P) (k : ∀ im2, P im2 → V mX10_both (d + 1) b 44 [some (.ref 0)] [] SM im2 Q) : V mX10_both (d + 1) b 37 [some (.ref 0)] [] SM im Q := by
  refine V.aload_n dX10_both_37 rfl rfl ?_
  refine V.iconst (v := 3) dX10_both_38 (by decide) ?_
  refine V.bipush (v := 38) dX10_both_39 (by decide) ?_
  refine V.cVV rfl vX10_step1 lkX10_75 wX10_step1 (ci := 10) rfl (by rfl) (As := [.int (3 : Int32), .int (38 : Int32)]) rfl rfl rfl dX10_both_41 hs (fun im2 h2 => ?_)
  exact k im2 h2
theorem bX10_both_44 {d : Nat} {b : Nat × Nat}  {im : XI} {Q : Option Value → XS → XI → Prop}   (k : V mX10_both d b 9 [some (.ref 0)] [] SM im Q) : V mX10_both d b 44 [some (.ref 0)] [] SM im Q := by
  refine V.goto (tgt := 9) dX10_both_44 (by decide) ?_
  exact k
theorem bX10_both_47 {d : Nat} {b : Nat × Nat}  {im : XI} {Q : Option Value → XS → XI → Prop}   (hq : Q (some (.int (1 : Int32))) SM im) : V mX10_both d b 47 [some (.ref 0)] [] SM im Q := by
  refine V.iconst (v := 1) dX10_both_47 (by decide) ?_
  exact V.zret rfl (by decide) dX10_both_48 hq
theorem bX10_compared_0 {d : Nat} {b : Nat × Nat}  {im : XI} {Q : Option Value → XS → XI → Prop} {P : Int32 → XI → Prop}  (hs : SpI mX10_sum d [.ref 0] SM im P) (k : ∀ x2 im2, P x2 im2 → V mX10_compared (d + 1) b 4 [some (.ref 0), none] [.int x2] SM im2 Q) : V mX10_compared (d + 1) b 0 [some (.ref 0), none] [] SM im Q := by
  refine V.aload_n dX10_compared_0 rfl rfl ?_
  refine V.cVI rfl vX10_sum lkX10_82 wX10_sum (ci := 10) rfl (by rfl) (As := []) rfl rfl rfl dX10_compared_1 hs (fun x2 im2 h2 => ?_)
  exact k x2 im2 h2
theorem bX10_compared_4 {d : Nat} {b : Nat × Nat}  {im : XI} {Q : Option Value → XS → XI → Prop} {s0 : Int32}  (kt : ¬ s0 = 0 → V mX10_compared d b 9 [some (.ref 0), none] [] SM im Q) (kf : s0 = 0 → V mX10_compared d b 7 [some (.ref 0), none] [] SM im Q) : V mX10_compared d b 4 [some (.ref 0), none] [.int s0] SM im Q := by
  refine V.if_ne (tgt := 9) dX10_compared_4 (by decide) (fun h => ?_) (fun h => ?_)
  · exact kt h
  · exact kf h
theorem bX10_compared_7 {d : Nat} {b : Nat × Nat}  {im : XI} {Q : Option Value → XS → XI → Prop}   (hq : Q (some (.int (0 : Int32))) SM im) : V mX10_compared d b 7 [some (.ref 0), none] [] SM im Q := by
  refine V.iconst (v := 0) dX10_compared_7 (by decide) ?_
  exact V.zret rfl (by decide) dX10_compared_8 hq
theorem bX10_compared_9 {d : Nat} {b : Nat × Nat}  {im : XI} {Q : Option Value → XS → XI → Prop} {P : Int32 → XI → Prop}  (hs : SpI mX10_look d [.ref 0] SM im P) (k : ∀ x2 im2, P x2 im2 → V mX10_compared (d + 1) b 13 [some (.ref 0), none] [.int x2] SM im2 Q) : V mX10_compared (d + 1) b 9 [some (.ref 0), none] [] SM im Q := by
  refine V.aload_n dX10_compared_9 rfl rfl ?_
  refine V.cVI rfl vX10_look lkX10_71 wX10_look (ci := 10) rfl (by rfl) (As := []) rfl rfl rfl dX10_compared_10 hs (fun x2 im2 h2 => ?_)
  exact k x2 im2 h2
theorem bX10_compared_13 {d : Nat} {b : Nat × Nat}  {im : XI} {Q : Option Value → XS → XI → Prop} {s0 : Int32}  (kt : s0 = (60 : Int32) → V mX10_compared d b 34 [some (.ref 0), some (.int s0)] [] SM im Q) (kf : ¬ s0 = (60 : Int32) → V mX10_compared d b 20 [some (.ref 0), some (.int s0)] [] SM im Q) : V mX10_compared d b 13 [some (.ref 0), none] [.int s0] SM im Q := by
  refine V.istore_n dX10_compared_13 rfl rfl rfl ?_
  refine V.iload_n dX10_compared_14 rfl rfl ?_
  refine V.bipush (v := 60) dX10_compared_15 (by decide) ?_
  refine V.icmp_eq (tgt := 34) dX10_compared_17 (by decide) (fun h => ?_) (fun h => ?_)
  · exact kt h
  · exact kf h
theorem bX10_compared_20 {d : Nat} {b : Nat × Nat}  {im : XI} {Q : Option Value → XS → XI → Prop} {l1 : Int32}  (kt : l1 = (61 : Int32) → V mX10_compared d b 34 [some (.ref 0), some (.int l1)] [] SM im Q) (kf : ¬ l1 = (61 : Int32) → V mX10_compared d b 26 [some (.ref 0), some (.int l1)] [] SM im Q) : V mX10_compared d b 20 [some (.ref 0), some (.int l1)] [] SM im Q := by
  refine V.iload_n dX10_compared_20 rfl rfl ?_
  refine V.bipush (v := 61) dX10_compared_21 (by decide) ?_
  refine V.icmp_eq (tgt := 34) dX10_compared_23 (by decide) (fun h => ?_) (fun h => ?_)
  · exact kt h
  · exact kf h
theorem bX10_compared_26 {d : Nat} {b : Nat × Nat}  {im : XI} {Q : Option Value → XS → XI → Prop} {l1 : Int32}  (kt : l1 = (62 : Int32) → V mX10_compared d b 34 [some (.ref 0), some (.int l1)] [] SM im Q) (kf : ¬ l1 = (62 : Int32) → V mX10_compared d b 32 [some (.ref 0), some (.int l1)] [] SM im Q) : V mX10_compared d b 26 [some (.ref 0), some (.int l1)] [] SM im Q := by
  refine V.iload_n dX10_compared_26 rfl rfl ?_
  refine V.bipush (v := 62) dX10_compared_27 (by decide) ?_
  refine V.icmp_eq (tgt := 34) dX10_compared_29 (by decide) (fun h => ?_) (fun h => ?_)
  · exact kt h
  · exact kf h
theorem bX10_compared_32 {d : Nat} {b : Nat × Nat}  {im : XI} {Q : Option Value → XS → XI → Prop} {l1 : Int32}  (hq : Q (some (.int (1 : Int32))) SM im) : V mX10_compared d b 32 [some (.ref 0), some (.int l1)] [] SM im Q := by
  refine V.iconst (v := 1) dX10_compared_32 (by decide) ?_
  exact V.zret rfl (by decide) dX10_compared_33 hq
theorem bX10_compared_34 {d : Nat} {b : Nat × Nat}  {im : XI} {Q : Option Value → XS → XI → Prop} {l1 : Int32} {P : Int32 → XI → Prop}  (hs : SpI mX10_sum d [.ref 0] SM (xup im 0 5 ((im 0 5) + (1 : Int32))) P) (k : ∀ x2 im2, P x2 im2 → V mX10_compared (d + 1) b 48 [some (.ref 0), some (.int l1)] [.int x2] SM im2 Q) : V mX10_compared (d + 1) b 34 [some (.ref 0), some (.int l1)] [] SM im Q := by
  refine V.aload_n dX10_compared_34 rfl rfl ?_
  refine V.dup dX10_compared_35 rfl ?_
  refine V.getI fX10_57 rfl (by rfl) dX10_compared_36 ?_
  refine V.iconst (v := 1) dX10_compared_39 (by decide) ?_
  refine V.iadd dX10_compared_40 ?_
  refine V.putI fX10_57 (fun h => by cases h) rfl (by rfl) dX10_compared_41 ?_
  refine V.aload_n dX10_compared_44 rfl rfl ?_
  refine V.cVI rfl vX10_sum lkX10_82 wX10_sum (ci := 10) rfl (by rfl) (As := []) rfl rfl rfl dX10_compared_45 hs (fun x2 im2 h2 => ?_)
  exact k x2 im2 h2
theorem bX10_compared_48 {d : Nat} {b : Nat × Nat}  {im : XI} {Q : Option Value → XS → XI → Prop} {l1 : Int32} {s0 : Int32}  (kt : ¬ s0 = 0 → V mX10_compared d b 53 [some (.ref 0), some (.int l1)] [] SM im Q) (kf : s0 = 0 → V mX10_compared d b 51 [some (.ref 0), some (.int l1)] [] SM im Q) : V mX10_compared d b 48 [some (.ref 0), some (.int l1)] [.int s0] SM im Q := by
  refine V.if_ne (tgt := 53) dX10_compared_48 (by decide) (fun h => ?_) (fun h => ?_)
  · exact kt h
  · exact kf h
theorem bX10_compared_51 {d : Nat} {b : Nat × Nat}  {im : XI} {Q : Option Value → XS → XI → Prop} {l1 : Int32}  (hq : Q (some (.int (0 : Int32))) SM im) : V mX10_compared d b 51 [some (.ref 0), some (.int l1)] [] SM im Q := by
  refine V.iconst (v := 0) dX10_compared_51 (by decide) ?_
  exact V.zret rfl (by decide) dX10_compared_52 hq
theorem bX10_compared_53 {d : Nat} {b : Nat × Nat}  {im : XI} {Q : Option Value → XS → XI → Prop} {l1 : Int32} {P : XI → Prop}  (hs : SpV mX10_step1 d [.ref 0, .int (3 : Int32), .int l1] SM im P) (k : ∀ im2, P im2 → V mX10_compared (d + 1) b 59 [some (.ref 0), some (.int l1)] [] SM im2 Q) : V mX10_compared (d + 1) b 53 [some (.ref 0), some (.int l1)] [] SM im Q := by
  refine V.aload_n dX10_compared_53 rfl rfl ?_
  refine V.iconst (v := 3) dX10_compared_54 (by decide) ?_
  refine V.iload_n dX10_compared_55 rfl rfl ?_
  refine V.cVV rfl vX10_step1 lkX10_75 wX10_step1 (ci := 10) rfl (by rfl) (As := [.int (3 : Int32), .int l1]) rfl rfl rfl dX10_compared_56 hs (fun im2 h2 => ?_)
  exact k im2 h2
theorem bX10_compared_59 {d : Nat} {b : Nat × Nat}  {im : XI} {Q : Option Value → XS → XI → Prop} {l1 : Int32}  (hq : Q (some (.int (1 : Int32))) SM im) : V mX10_compared d b 59 [some (.ref 0), some (.int l1)] [] SM im Q := by
  refine V.iconst (v := 1) dX10_compared_59 (by decide) ?_
  exact V.zret rfl (by decide) dX10_compared_60 hq
theorem bX10_sum_0 {d : Nat} {b : Nat × Nat}  {im : XI} {Q : Option Value → XS → XI → Prop} {P : Int32 → XI → Prop}  (hs : SpI mX10_product d [.ref 0] SM im P) (k : ∀ x2 im2, P x2 im2 → V mX10_sum (d + 1) b 4 [some (.ref 0), none] [.int x2] SM im2 Q) : V mX10_sum (d + 1) b 0 [some (.ref 0), none] [] SM im Q := by
  refine V.aload_n dX10_sum_0 rfl rfl ?_
  refine V.cVI rfl vX10_product lkX10_85 wX10_product (ci := 10) rfl (by rfl) (As := []) rfl rfl rfl dX10_sum_1 hs (fun x2 im2 h2 => ?_)
  exact k x2 im2 h2
theorem bX10_sum_4 {d : Nat} {b : Nat × Nat}  {im : XI} {Q : Option Value → XS → XI → Prop} {s0 : Int32}  (kt : ¬ s0 = 0 → V mX10_sum d b 9 [some (.ref 0), none] [] SM im Q) (kf : s0 = 0 → V mX10_sum d b 7 [some (.ref 0), none] [] SM im Q) : V mX10_sum d b 4 [some (.ref 0), none] [.int s0] SM im Q := by
  refine V.if_ne (tgt := 9) dX10_sum_4 (by decide) (fun h => ?_) (fun h => ?_)
  · exact kt h
  · exact kf h
theorem bX10_sum_7 {d : Nat} {b : Nat × Nat}  {im : XI} {Q : Option Value → XS → XI → Prop}   (hq : Q (some (.int (0 : Int32))) SM im) : V mX10_sum d b 7 [some (.ref 0), none] [] SM im Q := by
  refine V.iconst (v := 0) dX10_sum_7 (by decide) ?_
  exact V.zret rfl (by decide) dX10_sum_8 hq
theorem bX10_sum_9 {d : Nat} {b : Nat × Nat}  {im : XI} {Q : Option Value → XS → XI → Prop} {P : Int32 → XI → Prop}  (hs : SpI mX10_look d [.ref 0] SM im P) (k : ∀ x2 im2, P x2 im2 → V mX10_sum (d + 1) b 13 [some (.ref 0), none] [.int x2] SM im2 Q) : V mX10_sum (d + 1) b 9 [some (.ref 0), none] [] SM im Q := by
  refine V.aload_n dX10_sum_9 rfl rfl ?_
  refine V.cVI rfl vX10_look lkX10_71 wX10_look (ci := 10) rfl (by rfl) (As := []) rfl rfl rfl dX10_sum_10 hs (fun x2 im2 h2 => ?_)
  exact k x2 im2 h2
theorem bX10_sum_13 {d : Nat} {b : Nat × Nat}  {im : XI} {Q : Option Value → XS → XI → Prop} {s0 : Int32}  (kt : s0 = (43 : Int32) → V mX10_sum d b 27 [some (.ref 0), none] [] SM im Q) (kf : ¬ s0 = (43 : Int32) → V mX10_sum d b 18 [some (.ref 0), none] [] SM im Q) : V mX10_sum d b 13 [some (.ref 0), none] [.int s0] SM im Q := by
  refine V.bipush (v := 43) dX10_sum_13 (by decide) ?_
  refine V.icmp_eq (tgt := 27) dX10_sum_15 (by decide) (fun h => ?_) (fun h => ?_)
  · exact kt h
  · exact kf h
theorem bX10_sum_18 {d : Nat} {b : Nat × Nat}  {im : XI} {Q : Option Value → XS → XI → Prop} {P : Int32 → XI → Prop}  (hs : SpI mX10_look d [.ref 0] SM im P) (k : ∀ x2 im2, P x2 im2 → V mX10_sum (d + 1) b 22 [some (.ref 0), none] [.int x2] SM im2 Q) : V mX10_sum (d + 1) b 18 [some (.ref 0), none] [] SM im Q := by
  refine V.aload_n dX10_sum_18 rfl rfl ?_
  refine V.cVI rfl vX10_look lkX10_71 wX10_look (ci := 10) rfl (by rfl) (As := []) rfl rfl rfl dX10_sum_19 hs (fun x2 im2 h2 => ?_)
  exact k x2 im2 h2
theorem bX10_sum_22 {d : Nat} {b : Nat × Nat}  {im : XI} {Q : Option Value → XS → XI → Prop} {s0 : Int32}  (kt : ¬ s0 = (45 : Int32) → V mX10_sum d b 60 [some (.ref 0), none] [] SM im Q) (kf : s0 = (45 : Int32) → V mX10_sum d b 27 [some (.ref 0), none] [] SM im Q) : V mX10_sum d b 22 [some (.ref 0), none] [.int s0] SM im Q := by
  refine V.bipush (v := 45) dX10_sum_22 (by decide) ?_
  refine V.icmp_ne (tgt := 60) dX10_sum_24 (by decide) (fun h => ?_) (fun h => ?_)
  · exact kt h
  · exact kf h
theorem bX10_sum_27 {d : Nat} {b : Nat × Nat}  {im : XI} {Q : Option Value → XS → XI → Prop} {P : Int32 → XI → Prop}  (hs : SpI mX10_look d [.ref 0] SM im P) (k : ∀ x2 im2, P x2 im2 → V mX10_sum (d + 1) b 31 [some (.ref 0), none] [.int x2] SM im2 Q) : V mX10_sum (d + 1) b 27 [some (.ref 0), none] [] SM im Q := by
  refine V.aload_n dX10_sum_27 rfl rfl ?_
  refine V.cVI rfl vX10_look lkX10_71 wX10_look (ci := 10) rfl (by rfl) (As := []) rfl rfl rfl dX10_sum_28 hs (fun x2 im2 h2 => ?_)
  exact k x2 im2 h2
theorem bX10_sum_31 {d : Nat} {b : Nat × Nat}  {im : XI} {Q : Option Value → XS → XI → Prop} {s0 : Int32} {P : Int32 → XI → Prop}  (hs : SpI mX10_product d [.ref 0] SM (xup im 0 5 ((im 0 5) + (1 : Int32))) P) (k : ∀ x2 im2, P x2 im2 → V mX10_sum (d + 1) b 46 [some (.ref 0), some (.int s0)] [.int x2] SM im2 Q) : V mX10_sum (d + 1) b 31 [some (.ref 0), none] [.int s0] SM im Q := by
  refine V.istore_n dX10_sum_31 rfl rfl rfl ?_
  refine V.aload_n dX10_sum_32 rfl rfl ?_
  refine V.dup dX10_sum_33 rfl ?_
  refine V.getI fX10_57 rfl (by rfl) dX10_sum_34 ?_
  refine V.iconst (v := 1) dX10_sum_37 (by decide) ?_
  refine V.iadd dX10_sum_38 ?_
  refine V.putI fX10_57 (fun h => by cases h) rfl (by rfl) dX10_sum_39 ?_
  refine V.aload_n dX10_sum_42 rfl rfl ?_
  refine V.cVI rfl vX10_product lkX10_85 wX10_product (ci := 10) rfl (by rfl) (As := []) rfl rfl rfl dX10_sum_43 hs (fun x2 im2 h2 => ?_)
  exact k x2 im2 h2
theorem bX10_sum_46 {d : Nat} {b : Nat × Nat}  {im : XI} {Q : Option Value → XS → XI → Prop} {l1 : Int32} {s0 : Int32}  (kt : ¬ s0 = 0 → V mX10_sum d b 51 [some (.ref 0), some (.int l1)] [] SM im Q) (kf : s0 = 0 → V mX10_sum d b 49 [some (.ref 0), some (.int l1)] [] SM im Q) : V mX10_sum d b 46 [some (.ref 0), some (.int l1)] [.int s0] SM im Q := by
  refine V.if_ne (tgt := 51) dX10_sum_46 (by decide) (fun h => ?_) (fun h => ?_)
  · exact kt h
  · exact kf h
theorem bX10_sum_49 {d : Nat} {b : Nat × Nat}  {im : XI} {Q : Option Value → XS → XI → Prop} {l1 : Int32}  (hq : Q (some (.int (0 : Int32))) SM im) : V mX10_sum d b 49 [some (.ref 0), some (.int l1)] [] SM im Q := by
  refine V.iconst (v := 0) dX10_sum_49 (by decide) ?_
  exact V.zret rfl (by decide) dX10_sum_50 hq
theorem bX10_sum_51 {d : Nat} {b : Nat × Nat}  {im : XI} {Q : Option Value → XS → XI → Prop} {l1 : Int32} {P : XI → Prop}  (hs : SpV mX10_step1 d [.ref 0, .int (3 : Int32), .int l1] SM im P) (k : ∀ im2, P im2 → V mX10_sum (d + 1) b 57 [some (.ref 0), some (.int l1)] [] SM im2 Q) : V mX10_sum (d + 1) b 51 [some (.ref 0), some (.int l1)] [] SM im Q := by
  refine V.aload_n dX10_sum_51 rfl rfl ?_
  refine V.iconst (v := 3) dX10_sum_52 (by decide) ?_
  refine V.iload_n dX10_sum_53 rfl rfl ?_
  refine V.cVV rfl vX10_step1 lkX10_75 wX10_step1 (ci := 10) rfl (by rfl) (As := [.int (3 : Int32), .int l1]) rfl rfl rfl dX10_sum_54 hs (fun im2 h2 => ?_)
  exact k im2 h2
theorem bX10_sum_57 {d : Nat} {b : Nat × Nat}  {im : XI} {Q : Option Value → XS → XI → Prop} {l1 : Int32}  (k : V mX10_sum d b 9 [some (.ref 0), none] [] SM im Q) : V mX10_sum d b 57 [some (.ref 0), some (.int l1)] [] SM im Q := by
  refine V.goto (tgt := 9) dX10_sum_57 (by decide) ?_
  exact V.weakm [true, false] rfl (k)
theorem bX10_sum_60 {d : Nat} {b : Nat × Nat}  {im : XI} {Q : Option Value → XS → XI → Prop}   (hq : Q (some (.int (1 : Int32))) SM im) : V mX10_sum d b 60 [some (.ref 0), none] [] SM im Q := by
  refine V.iconst (v := 1) dX10_sum_60 (by decide) ?_
  exact V.zret rfl (by decide) dX10_sum_61 hq
theorem bX10_product_0 {d : Nat} {b : Nat × Nat}  {im : XI} {Q : Option Value → XS → XI → Prop} {P : Int32 → XI → Prop}  (hs : SpI mX10_one d [.ref 0] SM im P) (k : ∀ x2 im2, P x2 im2 → V mX10_product (d + 1) b 4 [some (.ref 0), none] [.int x2] SM im2 Q) : V mX10_product (d + 1) b 0 [some (.ref 0), none] [] SM im Q := by
  refine V.aload_n dX10_product_0 rfl rfl ?_
  refine V.cVI rfl vX10_one lkX10_88 wX10_one (ci := 10) rfl (by rfl) (As := []) rfl rfl rfl dX10_product_1 hs (fun x2 im2 h2 => ?_)
  exact k x2 im2 h2
theorem bX10_product_4 {d : Nat} {b : Nat × Nat}  {im : XI} {Q : Option Value → XS → XI → Prop} {s0 : Int32}  (kt : ¬ s0 = 0 → V mX10_product d b 9 [some (.ref 0), none] [] SM im Q) (kf : s0 = 0 → V mX10_product d b 7 [some (.ref 0), none] [] SM im Q) : V mX10_product d b 4 [some (.ref 0), none] [.int s0] SM im Q := by
  refine V.if_ne (tgt := 9) dX10_product_4 (by decide) (fun h => ?_) (fun h => ?_)
  · exact kt h
  · exact kf h
theorem bX10_product_7 {d : Nat} {b : Nat × Nat}  {im : XI} {Q : Option Value → XS → XI → Prop}   (hq : Q (some (.int (0 : Int32))) SM im) : V mX10_product d b 7 [some (.ref 0), none] [] SM im Q := by
  refine V.iconst (v := 0) dX10_product_7 (by decide) ?_
  exact V.zret rfl (by decide) dX10_product_8 hq
theorem bX10_product_9 {d : Nat} {b : Nat × Nat}  {im : XI} {Q : Option Value → XS → XI → Prop} {P : Int32 → XI → Prop}  (hs : SpI mX10_look d [.ref 0] SM im P) (k : ∀ x2 im2, P x2 im2 → V mX10_product (d + 1) b 13 [some (.ref 0), none] [.int x2] SM im2 Q) : V mX10_product (d + 1) b 9 [some (.ref 0), none] [] SM im Q := by
  refine V.aload_n dX10_product_9 rfl rfl ?_
  refine V.cVI rfl vX10_look lkX10_71 wX10_look (ci := 10) rfl (by rfl) (As := []) rfl rfl rfl dX10_product_10 hs (fun x2 im2 h2 => ?_)
  exact k x2 im2 h2
theorem bX10_product_13 {d : Nat} {b : Nat × Nat}  {im : XI} {Q : Option Value → XS → XI → Prop} {s0 : Int32}  (kt : s0 = (42 : Int32) → V mX10_product d b 36 [some (.ref 0), none] [] SM im Q) (kf : ¬ s0 = (42 : Int32) → V mX10_product d b 18 [some (.ref 0), none] [] SM im Q) : V mX10_product d b 13 [some (.ref 0), none] [.int s0] SM im Q := by
  refine V.bipush (v := 42) dX10_product_13 (by decide) ?_
  refine V.icmp_eq (tgt := 36) dX10_product_15 (by decide) (fun h => ?_) (fun h => ?_)
  · exact kt h
  · exact kf h
theorem bX10_product_18 {d : Nat} {b : Nat × Nat}  {im : XI} {Q : Option Value → XS → XI → Prop} {P : Int32 → XI → Prop}  (hs : SpI mX10_look d [.ref 0] SM im P) (k : ∀ x2 im2, P x2 im2 → V mX10_product (d + 1) b 22 [some (.ref 0), none] [.int x2] SM im2 Q) : V mX10_product (d + 1) b 18 [some (.ref 0), none] [] SM im Q := by
  refine V.aload_n dX10_product_18 rfl rfl ?_
  refine V.cVI rfl vX10_look lkX10_71 wX10_look (ci := 10) rfl (by rfl) (As := []) rfl rfl rfl dX10_product_19 hs (fun x2 im2 h2 => ?_)
  exact k x2 im2 h2
theorem bX10_product_22 {d : Nat} {b : Nat × Nat}  {im : XI} {Q : Option Value → XS → XI → Prop} {s0 : Int32}  (kt : s0 = (47 : Int32) → V mX10_product d b 36 [some (.ref 0), none] [] SM im Q) (kf : ¬ s0 = (47 : Int32) → V mX10_product d b 27 [some (.ref 0), none] [] SM im Q) : V mX10_product d b 22 [some (.ref 0), none] [.int s0] SM im Q := by
  refine V.bipush (v := 47) dX10_product_22 (by decide) ?_
  refine V.icmp_eq (tgt := 36) dX10_product_24 (by decide) (fun h => ?_) (fun h => ?_)
  · exact kt h
  · exact kf h
theorem bX10_product_27 {d : Nat} {b : Nat × Nat}  {im : XI} {Q : Option Value → XS → XI → Prop} {P : Int32 → XI → Prop}  (hs : SpI mX10_look d [.ref 0] SM im P) (k : ∀ x2 im2, P x2 im2 → V mX10_product (d + 1) b 31 [some (.ref 0), none] [.int x2] SM im2 Q) : V mX10_product (d + 1) b 27 [some (.ref 0), none] [] SM im Q := by
  refine V.aload_n dX10_product_27 rfl rfl ?_
  refine V.cVI rfl vX10_look lkX10_71 wX10_look (ci := 10) rfl (by rfl) (As := []) rfl rfl rfl dX10_product_28 hs (fun x2 im2 h2 => ?_)
  exact k x2 im2 h2
theorem bX10_product_31 {d : Nat} {b : Nat × Nat}  {im : XI} {Q : Option Value → XS → XI → Prop} {s0 : Int32}  (kt : ¬ s0 = (37 : Int32) → V mX10_product d b 69 [some (.ref 0), none] [] SM im Q) (kf : s0 = (37 : Int32) → V mX10_product d b 36 [some (.ref 0), none] [] SM im Q) : V mX10_product d b 31 [some (.ref 0), none] [.int s0] SM im Q := by
  refine V.bipush (v := 37) dX10_product_31 (by decide) ?_
  refine V.icmp_ne (tgt := 69) dX10_product_33 (by decide) (fun h => ?_) (fun h => ?_)
  · exact kt h
  · exact kf h
theorem bX10_product_36 {d : Nat} {b : Nat × Nat}  {im : XI} {Q : Option Value → XS → XI → Prop} {P : Int32 → XI → Prop}  (hs : SpI mX10_look d [.ref 0] SM im P) (k : ∀ x2 im2, P x2 im2 → V mX10_product (d + 1) b 40 [some (.ref 0), none] [.int x2] SM im2 Q) : V mX10_product (d + 1) b 36 [some (.ref 0), none] [] SM im Q := by
  refine V.aload_n dX10_product_36 rfl rfl ?_
  refine V.cVI rfl vX10_look lkX10_71 wX10_look (ci := 10) rfl (by rfl) (As := []) rfl rfl rfl dX10_product_37 hs (fun x2 im2 h2 => ?_)
  exact k x2 im2 h2
theorem bX10_product_40 {d : Nat} {b : Nat × Nat}  {im : XI} {Q : Option Value → XS → XI → Prop} {s0 : Int32} {P : Int32 → XI → Prop}  (hs : SpI mX10_one d [.ref 0] SM (xup im 0 5 ((im 0 5) + (1 : Int32))) P) (k : ∀ x2 im2, P x2 im2 → V mX10_product (d + 1) b 55 [some (.ref 0), some (.int s0)] [.int x2] SM im2 Q) : V mX10_product (d + 1) b 40 [some (.ref 0), none] [.int s0] SM im Q := by
  refine V.istore_n dX10_product_40 rfl rfl rfl ?_
  refine V.aload_n dX10_product_41 rfl rfl ?_
  refine V.dup dX10_product_42 rfl ?_
  refine V.getI fX10_57 rfl (by rfl) dX10_product_43 ?_
  refine V.iconst (v := 1) dX10_product_46 (by decide) ?_
  refine V.iadd dX10_product_47 ?_
  refine V.putI fX10_57 (fun h => by cases h) rfl (by rfl) dX10_product_48 ?_
  refine V.aload_n dX10_product_51 rfl rfl ?_
  refine V.cVI rfl vX10_one lkX10_88 wX10_one (ci := 10) rfl (by rfl) (As := []) rfl rfl rfl dX10_product_52 hs (fun x2 im2 h2 => ?_)
  exact k x2 im2 h2
theorem bX10_product_55 {d : Nat} {b : Nat × Nat}  {im : XI} {Q : Option Value → XS → XI → Prop} {l1 : Int32} {s0 : Int32}  (kt : ¬ s0 = 0 → V mX10_product d b 60 [some (.ref 0), some (.int l1)] [] SM im Q) (kf : s0 = 0 → V mX10_product d b 58 [some (.ref 0), some (.int l1)] [] SM im Q) : V mX10_product d b 55 [some (.ref 0), some (.int l1)] [.int s0] SM im Q := by
  refine V.if_ne (tgt := 60) dX10_product_55 (by decide) (fun h => ?_) (fun h => ?_)
  · exact kt h
  · exact kf h
theorem bX10_product_58 {d : Nat} {b : Nat × Nat}  {im : XI} {Q : Option Value → XS → XI → Prop} {l1 : Int32}  (hq : Q (some (.int (0 : Int32))) SM im) : V mX10_product d b 58 [some (.ref 0), some (.int l1)] [] SM im Q := by
  refine V.iconst (v := 0) dX10_product_58 (by decide) ?_
  exact V.zret rfl (by decide) dX10_product_59 hq
theorem bX10_product_60 {d : Nat} {b : Nat × Nat}  {im : XI} {Q : Option Value → XS → XI → Prop} {l1 : Int32} {P : XI → Prop}  (hs : SpV mX10_step1 d [.ref 0, .int (3 : Int32), .int l1] SM im P) (k : ∀ im2, P im2 → V mX10_product (d + 1) b 66 [some (.ref 0), some (.int l1)] [] SM im2 Q) : V mX10_product (d + 1) b 60 [some (.ref 0), some (.int l1)] [] SM im Q := by
  refine V.aload_n dX10_product_60 rfl rfl ?_
  refine V.iconst (v := 3) dX10_product_61 (by decide) ?_
  refine V.iload_n dX10_product_62 rfl rfl ?_
  refine V.cVV rfl vX10_step1 lkX10_75 wX10_step1 (ci := 10) rfl (by rfl) (As := [.int (3 : Int32), .int l1]) rfl rfl rfl dX10_product_63 hs (fun im2 h2 => ?_)
  exact k im2 h2
theorem bX10_product_66 {d : Nat} {b : Nat × Nat}  {im : XI} {Q : Option Value → XS → XI → Prop} {l1 : Int32}  (k : V mX10_product d b 9 [some (.ref 0), none] [] SM im Q) : V mX10_product d b 66 [some (.ref 0), some (.int l1)] [] SM im Q := by
  refine V.goto (tgt := 9) dX10_product_66 (by decide) ?_
  exact V.weakm [true, false] rfl (k)
theorem bX10_product_69 {d : Nat} {b : Nat × Nat}  {im : XI} {Q : Option Value → XS → XI → Prop}   (hq : Q (some (.int (1 : Int32))) SM im) : V mX10_product d b 69 [some (.ref 0), none] [] SM im Q := by
  refine V.iconst (v := 1) dX10_product_69 (by decide) ?_
  exact V.zret rfl (by decide) dX10_product_70 hq
theorem bX10_opens_0 {d : Nat} {b : Nat × Nat}  {im : XI} {Q : Option Value → XS → XI → Prop}   (kt : ¬ (im 0 6) = (5 : Int32) → V mX10_opens d b 10 [some (.ref 0)] [] SM im Q) (kf : (im 0 6) = (5 : Int32) → V mX10_opens d b 8 [some (.ref 0)] [] SM im Q) : V mX10_opens d b 0 [some (.ref 0)] [] SM im Q := by
  refine V.aload_n dX10_opens_0 rfl rfl ?_
  refine V.getI fX10_91 rfl (by rfl) dX10_opens_1 ?_
  refine V.iconst (v := 5) dX10_opens_4 (by decide) ?_
  refine V.icmp_ne (tgt := 10) dX10_opens_5 (by decide) (fun h => ?_) (fun h => ?_)
  · exact kt h
  · exact kf h
theorem bX10_opens_8 {d : Nat} {b : Nat × Nat}  {im : XI} {Q : Option Value → XS → XI → Prop}   (hq : Q (some (.int (0 : Int32))) SM im) : V mX10_opens d b 8 [some (.ref 0)] [] SM im Q := by
  refine V.iconst (v := 0) dX10_opens_8 (by decide) ?_
  exact V.zret rfl (by decide) dX10_opens_9 hq
theorem bX10_opens_10 {d : Nat} {b : Nat × Nat}  {im : XI} {Q : Option Value → XS → XI → Prop}   (hq : Q (some (.int (1 : Int32))) SM (xup (xup im 0 6 ((im 0 6) + (1 : Int32))) 0 5 (((xup im 0 6 ((im 0 6) + (1 : Int32))) 0 5) + (1 : Int32)))) : V mX10_opens d b 10 [some (.ref 0)] [] SM im Q := by
  refine V.aload_n dX10_opens_10 rfl rfl ?_
  refine V.dup dX10_opens_11 rfl ?_
  refine V.getI fX10_91 rfl (by rfl) dX10_opens_12 ?_
  refine V.iconst (v := 1) dX10_opens_15 (by decide) ?_
  refine V.iadd dX10_opens_16 ?_
  refine V.putI fX10_91 (fun h => by cases h) rfl (by rfl) dX10_opens_17 ?_
  refine V.aload_n dX10_opens_20 rfl rfl ?_
  refine V.dup dX10_opens_21 rfl ?_
  refine V.getI fX10_57 rfl (by rfl) dX10_opens_22 ?_
  refine V.iconst (v := 1) dX10_opens_25 (by decide) ?_
  refine V.iadd dX10_opens_26 ?_
  refine V.putI fX10_57 (fun h => by cases h) rfl (by rfl) dX10_opens_27 ?_
  refine V.iconst (v := 1) dX10_opens_30 (by decide) ?_
  exact V.zret rfl (by decide) dX10_opens_31 hq
theorem bX10_one_0 {d : Nat} {b : Nat × Nat}  {im : XI} {Q : Option Value → XS → XI → Prop} {P : Int32 → XI → Prop}  (hs : SpI mX10_look d [.ref 0] SM im P) (k : ∀ x2 im2, P x2 im2 → V mX10_one (d + 1) b 4 [some (.ref 0), none, none, none] [.int x2] SM im2 Q) : V mX10_one (d + 1) b 0 [some (.ref 0), none, none, none] [] SM im Q := by
  refine V.aload_n dX10_one_0 rfl rfl ?_
  refine V.cVI rfl vX10_look lkX10_71 wX10_look (ci := 10) rfl (by rfl) (As := []) rfl rfl rfl dX10_one_1 hs (fun x2 im2 h2 => ?_)
  exact k x2 im2 h2
theorem bX10_one_4 {d : Nat} {b : Nat × Nat}  {im : XI} {Q : Option Value → XS → XI → Prop} {s0 : Int32} {P : Int32 → XI → Prop}  (hs : SpI mX10_isName d [.ref 0, .int s0] SM im P) (k : ∀ x2 im2, P x2 im2 → V mX10_one (d + 1) b 10 [some (.ref 0), some (.int s0), none, none] [.int x2] SM im2 Q) : V mX10_one (d + 1) b 4 [some (.ref 0), none, none, none] [.int s0] SM im Q := by
  refine V.istore_n dX10_one_4 rfl rfl rfl ?_
  refine V.aload_n dX10_one_5 rfl rfl ?_
  refine V.iload_n dX10_one_6 rfl rfl ?_
  refine V.cVI rfl vX10_isName lkX10_94 wX10_isName (ci := 10) rfl (by rfl) (As := [.int s0]) rfl rfl rfl dX10_one_7 hs (fun x2 im2 h2 => ?_)
  exact k x2 im2 h2
theorem bX10_one_10 {d : Nat} {b : Nat × Nat}  {im : XI} {Q : Option Value → XS → XI → Prop} {l1 : Int32} {s0 : Int32}  (kt : s0 = 0 → V mX10_one d b 31 [some (.ref 0), some (.int l1), none, none] [] SM im Q) (kf : ¬ s0 = 0 → V mX10_one d b 13 [some (.ref 0), some (.int l1), none, none] [] SM im Q) : V mX10_one d b 10 [some (.ref 0), some (.int l1), none, none] [.int s0] SM im Q := by
  refine V.if_eq (tgt := 31) dX10_one_10 (by decide) (fun h => ?_) (fun h => ?_)
  · exact kt h
  · exact kf h
theorem bX10_one_13 {d : Nat} {b : Nat × Nat}  {im : XI} {Q : Option Value → XS → XI → Prop} {l1 : Int32} {P : XI → Prop}  (hs : SpV mX10_step1 d [.ref 0, .int (1 : Int32), .int l1] SM (xup im 0 5 ((im 0 5) + (1 : Int32))) P) (k : ∀ im2, P im2 → V mX10_one (d + 1) b 29 [some (.ref 0), some (.int l1), none, none] [] SM im2 Q) : V mX10_one (d + 1) b 13 [some (.ref 0), some (.int l1), none, none] [] SM im Q := by
  refine V.aload_n dX10_one_13 rfl rfl ?_
  refine V.dup dX10_one_14 rfl ?_
  refine V.getI fX10_57 rfl (by rfl) dX10_one_15 ?_
  refine V.iconst (v := 1) dX10_one_18 (by decide) ?_
  refine V.iadd dX10_one_19 ?_
  refine V.putI fX10_57 (fun h => by cases h) rfl (by rfl) dX10_one_20 ?_
  refine V.aload_n dX10_one_23 rfl rfl ?_
  refine V.iconst (v := 1) dX10_one_24 (by decide) ?_
  refine V.iload_n dX10_one_25 rfl rfl ?_
  refine V.cVV rfl vX10_step1 lkX10_75 wX10_step1 (ci := 10) rfl (by rfl) (As := [.int (1 : Int32), .int l1]) rfl rfl rfl dX10_one_26 hs (fun im2 h2 => ?_)
  exact k im2 h2
theorem bX10_one_29 {d : Nat} {b : Nat × Nat}  {im : XI} {Q : Option Value → XS → XI → Prop} {l1 : Int32}  (hq : Q (some (.int (1 : Int32))) SM im) : V mX10_one d b 29 [some (.ref 0), some (.int l1), none, none] [] SM im Q := by
  refine V.iconst (v := 1) dX10_one_29 (by decide) ?_
  exact V.zret rfl (by decide) dX10_one_30 hq
theorem bX10_one_31 {d : Nat} {b : Nat × Nat}  {im : XI} {Q : Option Value → XS → XI → Prop} {l1 : Int32} {P : Int32 → XI → Prop}  (hs : SpI mX10_in d [.int l1, .int (48 : Int32), .int (57 : Int32)] SM im P) (k : ∀ x2 im2, P x2 im2 → V mX10_one (d + 1) b 39 [some (.ref 0), some (.int l1), none, none] [.int x2] SM im2 Q) : V mX10_one (d + 1) b 31 [some (.ref 0), some (.int l1), none, none] [] SM im Q := by
  refine V.iload_n dX10_one_31 rfl rfl ?_
  refine V.bipush (v := 48) dX10_one_32 (by decide) ?_
  refine V.bipush (v := 57) dX10_one_34 (by decide) ?_
  refine V.cSI rfl vX10_in lkX10_47 sX10_in (As := [.int l1, .int (48 : Int32), .int (57 : Int32)]) rfl rfl rfl dX10_one_36 hs (fun x2 im2 h2 => ?_)
  exact k x2 im2 h2
theorem bX10_one_39 {d : Nat} {b : Nat × Nat}  {im : XI} {Q : Option Value → XS → XI → Prop} {l1 : Int32} {s0 : Int32}  (kt : s0 = 0 → V mX10_one d b 102 [some (.ref 0), some (.int l1), none, none] [] SM im Q) (kf : ¬ s0 = 0 → V mX10_one d b 42 [some (.ref 0), some (.int l1), none, none] [] SM im Q) : V mX10_one d b 39 [some (.ref 0), some (.int l1), none, none] [.int s0] SM im Q := by
  refine V.if_eq (tgt := 102) dX10_one_39 (by decide) (fun h => ?_) (fun h => ?_)
  · exact kt h
  · exact kf h
theorem bX10_one_42 {d : Nat} {b : Nat × Nat}  {im : XI} {Q : Option Value → XS → XI → Prop} {l1 : Int32}  (k : V mX10_one d b 46 [some (.ref 0), some (.int l1), some (.int (0 : Int32)), some (.int (0 : Int32))] [] SM im Q) : V mX10_one d b 42 [some (.ref 0), some (.int l1), none, none] [] SM im Q := by
  refine V.iconst (v := 0) dX10_one_42 (by decide) ?_
  refine V.istore_n dX10_one_43 rfl rfl rfl ?_
  refine V.iconst (v := 0) dX10_one_44 (by decide) ?_
  refine V.istore_n dX10_one_45 rfl rfl rfl ?_
  exact k
theorem bX10_one_46 {d : Nat} {b : Nat × Nat}  {im : XI} {Q : Option Value → XS → XI → Prop} {l1 : Int32} {l2 : Int32} {l3 : Int32}  (kt : (4 : Int32) ≤ l3 → V mX10_one d b 94 [some (.ref 0), some (.int l1), some (.int l2), some (.int l3)] [] SM im Q) (kf : ¬ (4 : Int32) ≤ l3 → V mX10_one d b 51 [some (.ref 0), some (.int l1), some (.int l2), some (.int l3)] [] SM im Q) : V mX10_one d b 46 [some (.ref 0), some (.int l1), some (.int l2), some (.int l3)] [] SM im Q := by
  refine V.iload_n dX10_one_46 rfl rfl ?_
  refine V.iconst (v := 4) dX10_one_47 (by decide) ?_
  refine V.icmp_ge (tgt := 94) dX10_one_48 (by decide) (fun h => ?_) (fun h => ?_)
  · exact kt h
  · exact kf h
theorem bX10_one_51 {d : Nat} {b : Nat × Nat}  {im : XI} {Q : Option Value → XS → XI → Prop} {l1 : Int32} {l2 : Int32} {l3 : Int32} {P : Int32 → XI → Prop}  (hs : SpI mX10_look d [.ref 0] SM im P) (k : ∀ x2 im2, P x2 im2 → V mX10_one (d + 1) b 55 [some (.ref 0), some (.int l1), some (.int l2), some (.int l3)] [.int x2] SM im2 Q) : V mX10_one (d + 1) b 51 [some (.ref 0), some (.int l1), some (.int l2), some (.int l3)] [] SM im Q := by
  refine V.aload_n dX10_one_51 rfl rfl ?_
  refine V.cVI rfl vX10_look lkX10_71 wX10_look (ci := 10) rfl (by rfl) (As := []) rfl rfl rfl dX10_one_52 hs (fun x2 im2 h2 => ?_)
  exact k x2 im2 h2
theorem bX10_one_55 {d : Nat} {b : Nat × Nat}  {im : XI} {Q : Option Value → XS → XI → Prop} {l1 : Int32} {l2 : Int32} {l3 : Int32} {s0 : Int32} {P : Int32 → XI → Prop}  (hs : SpI mX10_in d [.int s0, .int (48 : Int32), .int (57 : Int32)] SM im P) (k : ∀ x2 im2, P x2 im2 → V mX10_one (d + 1) b 62 [some (.ref 0), some (.int l1), some (.int l2), some (.int l3)] [.int x2] SM im2 Q) : V mX10_one (d + 1) b 55 [some (.ref 0), some (.int l1), some (.int l2), some (.int l3)] [.int s0] SM im Q := by
  refine V.bipush (v := 48) dX10_one_55 (by decide) ?_
  refine V.bipush (v := 57) dX10_one_57 (by decide) ?_
  refine V.cSI rfl vX10_in lkX10_47 sX10_in (As := [.int s0, .int (48 : Int32), .int (57 : Int32)]) rfl rfl rfl dX10_one_59 hs (fun x2 im2 h2 => ?_)
  exact k x2 im2 h2
theorem bX10_one_62 {d : Nat} {b : Nat × Nat}  {im : XI} {Q : Option Value → XS → XI → Prop} {l1 : Int32} {l2 : Int32} {l3 : Int32} {s0 : Int32}  (kt : s0 = 0 → V mX10_one d b 94 [some (.ref 0), some (.int l1), some (.int l2), some (.int l3)] [] SM im Q) (kf : ¬ s0 = 0 → V mX10_one d b 65 [some (.ref 0), some (.int l1), some (.int l2), some (.int l3)] [] SM im Q) : V mX10_one d b 62 [some (.ref 0), some (.int l1), some (.int l2), some (.int l3)] [.int s0] SM im Q := by
  refine V.if_eq (tgt := 94) dX10_one_62 (by decide) (fun h => ?_) (fun h => ?_)
  · exact kt h
  · exact kf h
theorem bX10_one_65 {d : Nat} {b : Nat × Nat}  {im : XI} {Q : Option Value → XS → XI → Prop} {l1 : Int32} {l2 : Int32} {l3 : Int32} {P : Int32 → XI → Prop}  (hs : SpI mX10_look d [.ref 0] SM im P) (k : ∀ x2 im2, P x2 im2 → V mX10_one (d + 1) b 73 [some (.ref 0), some (.int l1), some (.int l2), some (.int l3)] [.int x2, .int ((10 : Int32) * l2)] SM im2 Q) : V mX10_one (d + 1) b 65 [some (.ref 0), some (.int l1), some (.int l2), some (.int l3)] [] SM im Q := by
  refine V.bipush (v := 10) dX10_one_65 (by decide) ?_
  refine V.iload_n dX10_one_67 rfl rfl ?_
  refine V.imul dX10_one_68 ?_
  refine V.aload_n dX10_one_69 rfl rfl ?_
  refine V.cVI rfl vX10_look lkX10_71 wX10_look (ci := 10) rfl (by rfl) (As := []) rfl rfl rfl dX10_one_70 hs (fun x2 im2 h2 => ?_)
  exact k x2 im2 h2
theorem bX10_one_73 {d : Nat} {b : Nat × Nat}  {im : XI} {Q : Option Value → XS → XI → Prop} {l1 : Int32} {l2 : Int32} {l3 : Int32} {s0 : Int32} {s1 : Int32}  (k : V mX10_one d b 46 [some (.ref 0), some (.int l1), some (.int ((s0 + s1) - (48 : Int32))), some (.int (l3 + (1 : Int32)))] [] SM (xup im 0 5 ((im 0 5) + (1 : Int32))) Q) : V mX10_one d b 73 [some (.ref 0), some (.int l1), some (.int l2), some (.int l3)] [.int s1, .int s0] SM im Q := by
  refine V.iadd dX10_one_73 ?_
  refine V.bipush (v := 48) dX10_one_74 (by decide) ?_
  refine V.isub dX10_one_76 ?_
  refine V.istore_n dX10_one_77 rfl rfl rfl ?_
  refine V.aload_n dX10_one_78 rfl rfl ?_
  refine V.dup dX10_one_79 rfl ?_
  refine V.getI fX10_57 rfl (by rfl) dX10_one_80 ?_
  refine V.iconst (v := 1) dX10_one_83 (by decide) ?_
  refine V.iadd dX10_one_84 ?_
  refine V.putI fX10_57 (fun h => by cases h) rfl (by rfl) dX10_one_85 ?_
  refine V.iinc (v := (l3 + (1 : Int32))) dX10_one_88 rfl rfl rfl ?_
  refine V.goto (tgt := 46) dX10_one_91 (by decide) ?_
  exact k
theorem bX10_one_94 {d : Nat} {b : Nat × Nat}  {im : XI} {Q : Option Value → XS → XI → Prop} {l1 : Int32} {l2 : Int32} {l3 : Int32} {P : XI → Prop}  (hs : SpV mX10_step1 d [.ref 0, .int (0 : Int32), .int l2] SM im P) (k : ∀ im2, P im2 → V mX10_one (d + 1) b 100 [some (.ref 0), some (.int l1), some (.int l2), some (.int l3)] [] SM im2 Q) : V mX10_one (d + 1) b 94 [some (.ref 0), some (.int l1), some (.int l2), some (.int l3)] [] SM im Q := by
  refine V.aload_n dX10_one_94 rfl rfl ?_
  refine V.iconst (v := 0) dX10_one_95 (by decide) ?_
  refine V.iload_n dX10_one_96 rfl rfl ?_
  refine V.cVV rfl vX10_step1 lkX10_75 wX10_step1 (ci := 10) rfl (by rfl) (As := [.int (0 : Int32), .int l2]) rfl rfl rfl dX10_one_97 hs (fun im2 h2 => ?_)
  exact k im2 h2
theorem bX10_one_100 {d : Nat} {b : Nat × Nat}  {im : XI} {Q : Option Value → XS → XI → Prop} {l1 : Int32} {l2 : Int32} {l3 : Int32}  (hq : Q (some (.int (1 : Int32))) SM im) : V mX10_one d b 100 [some (.ref 0), some (.int l1), some (.int l2), some (.int l3)] [] SM im Q := by
  refine V.iconst (v := 1) dX10_one_100 (by decide) ?_
  exact V.zret rfl (by decide) dX10_one_101 hq
theorem bX10_one_102 {d : Nat} {b : Nat × Nat}  {im : XI} {Q : Option Value → XS → XI → Prop} {l1 : Int32}  (kt : ¬ l1 = (33 : Int32) → V mX10_one d b 142 [some (.ref 0), some (.int l1), none, none] [] SM im Q) (kf : l1 = (33 : Int32) → V mX10_one d b 108 [some (.ref 0), some (.int l1), none, none] [] SM im Q) : V mX10_one d b 102 [some (.ref 0), some (.int l1), none, none] [] SM im Q := by
  refine V.iload_n dX10_one_102 rfl rfl ?_
  refine V.bipush (v := 33) dX10_one_103 (by decide) ?_
  refine V.icmp_ne (tgt := 142) dX10_one_105 (by decide) (fun h => ?_) (fun h => ?_)
  · exact kt h
  · exact kf h
theorem bX10_one_108 {d : Nat} {b : Nat × Nat}  {im : XI} {Q : Option Value → XS → XI → Prop} {l1 : Int32} {P : Int32 → XI → Prop}  (hs : SpI mX10_opens d [.ref 0] SM im P) (k : ∀ x2 im2, P x2 im2 → V mX10_one (d + 1) b 112 [some (.ref 0), some (.int l1), none, none] [.int x2] SM im2 Q) : V mX10_one (d + 1) b 108 [some (.ref 0), some (.int l1), none, none] [] SM im Q := by
  refine V.aload_n dX10_one_108 rfl rfl ?_
  refine V.cVI rfl vX10_opens lkX10_98 wX10_opens (ci := 10) rfl (by rfl) (As := []) rfl rfl rfl dX10_one_109 hs (fun x2 im2 h2 => ?_)
  exact k x2 im2 h2
theorem bX10_one_112 {d : Nat} {b : Nat × Nat}  {im : XI} {Q : Option Value → XS → XI → Prop} {l1 : Int32} {s0 : Int32}  (kt : s0 = 0 → V mX10_one d b 122 [some (.ref 0), some (.int l1), none, none] [] SM im Q) (kf : ¬ s0 = 0 → V mX10_one d b 115 [some (.ref 0), some (.int l1), none, none] [] SM im Q) : V mX10_one d b 112 [some (.ref 0), some (.int l1), none, none] [.int s0] SM im Q := by
  refine V.if_eq (tgt := 122) dX10_one_112 (by decide) (fun h => ?_) (fun h => ?_)
  · exact kt h
  · exact kf h
theorem bX10_one_115 {d : Nat} {b : Nat × Nat}  {im : XI} {Q : Option Value → XS → XI → Prop} {l1 : Int32} {P : Int32 → XI → Prop}  (hs : SpI mX10_one d [.ref 0] SM im P) (k : ∀ x2 im2, P x2 im2 → V mX10_one (d + 1) b 119 [some (.ref 0), some (.int l1), none, none] [.int x2] SM im2 Q) : V mX10_one (d + 1) b 115 [some (.ref 0), some (.int l1), none, none] [] SM im Q := by
  refine V.aload_n dX10_one_115 rfl rfl ?_
  refine V.cVI rfl vX10_one lkX10_88 wX10_one (ci := 10) rfl (by rfl) (As := []) rfl rfl rfl dX10_one_116 hs (fun x2 im2 h2 => ?_)
  exact k x2 im2 h2
theorem bX10_one_119 {d : Nat} {b : Nat × Nat}  {im : XI} {Q : Option Value → XS → XI → Prop} {l1 : Int32} {s0 : Int32}  (kt : ¬ s0 = 0 → V mX10_one d b 124 [some (.ref 0), some (.int l1), none, none] [] SM im Q) (kf : s0 = 0 → V mX10_one d b 122 [some (.ref 0), some (.int l1), none, none] [] SM im Q) : V mX10_one d b 119 [some (.ref 0), some (.int l1), none, none] [.int s0] SM im Q := by
  refine V.if_ne (tgt := 124) dX10_one_119 (by decide) (fun h => ?_) (fun h => ?_)
  · exact kt h
  · exact kf h
theorem bX10_one_122 {d : Nat} {b : Nat × Nat}  {im : XI} {Q : Option Value → XS → XI → Prop} {l1 : Int32}  (hq : Q (some (.int (0 : Int32))) SM im) : V mX10_one d b 122 [some (.ref 0), some (.int l1), none, none] [] SM im Q := by
  refine V.iconst (v := 0) dX10_one_122 (by decide) ?_
  exact V.zret rfl (by decide) dX10_one_123 hq
theorem bX10_one_124 {d : Nat} {b : Nat × Nat}  {im : XI} {Q : Option Value → XS → XI → Prop} {l1 : Int32} {P : XI → Prop}  (hs : SpV mX10_step1 d [.ref 0, .int (2 : Int32), .int (0 : Int32)] SM (xup im 0 6 ((im 0 6) - (1 : Int32))) P) (k : ∀ im2, P im2 → V mX10_one (d + 1) b 140 [some (.ref 0), some (.int l1), none, none] [] SM im2 Q) : V mX10_one (d + 1) b 124 [some (.ref 0), some (.int l1), none, none] [] SM im Q := by
  refine V.aload_n dX10_one_124 rfl rfl ?_
  refine V.dup dX10_one_125 rfl ?_
  refine V.getI fX10_91 rfl (by rfl) dX10_one_126 ?_
  refine V.iconst (v := 1) dX10_one_129 (by decide) ?_
  refine V.isub dX10_one_130 ?_
  refine V.putI fX10_91 (fun h => by cases h) rfl (by rfl) dX10_one_131 ?_
  refine V.aload_n dX10_one_134 rfl rfl ?_
  refine V.iconst (v := 2) dX10_one_135 (by decide) ?_
  refine V.iconst (v := 0) dX10_one_136 (by decide) ?_
  refine V.cVV rfl vX10_step1 lkX10_75 wX10_step1 (ci := 10) rfl (by rfl) (As := [.int (2 : Int32), .int (0 : Int32)]) rfl rfl rfl dX10_one_137 hs (fun im2 h2 => ?_)
  exact k im2 h2
theorem bX10_one_140 {d : Nat} {b : Nat × Nat}  {im : XI} {Q : Option Value → XS → XI → Prop} {l1 : Int32}  (hq : Q (some (.int (1 : Int32))) SM im) : V mX10_one d b 140 [some (.ref 0), some (.int l1), none, none] [] SM im Q := by
  refine V.iconst (v := 1) dX10_one_140 (by decide) ?_
  exact V.zret rfl (by decide) dX10_one_141 hq
theorem bX10_one_142 {d : Nat} {b : Nat × Nat}  {im : XI} {Q : Option Value → XS → XI → Prop} {l1 : Int32}  (kt : ¬ l1 = (40 : Int32) → V mX10_one d b 171 [some (.ref 0), some (.int l1), none, none] [] SM im Q) (kf : l1 = (40 : Int32) → V mX10_one d b 148 [some (.ref 0), some (.int l1), none, none] [] SM im Q) : V mX10_one d b 142 [some (.ref 0), some (.int l1), none, none] [] SM im Q := by
  refine V.iload_n dX10_one_142 rfl rfl ?_
  refine V.bipush (v := 40) dX10_one_143 (by decide) ?_
  refine V.icmp_ne (tgt := 171) dX10_one_145 (by decide) (fun h => ?_) (fun h => ?_)
  · exact kt h
  · exact kf h
theorem bX10_one_148 {d : Nat} {b : Nat × Nat}  {im : XI} {Q : Option Value → XS → XI → Prop} {l1 : Int32} {P : Int32 → XI → Prop}  (hs : SpI mX10_opens d [.ref 0] SM im P) (k : ∀ x2 im2, P x2 im2 → V mX10_one (d + 1) b 152 [some (.ref 0), some (.int l1), none, none] [.int x2] SM im2 Q) : V mX10_one (d + 1) b 148 [some (.ref 0), some (.int l1), none, none] [] SM im Q := by
  refine V.aload_n dX10_one_148 rfl rfl ?_
  refine V.cVI rfl vX10_opens lkX10_98 wX10_opens (ci := 10) rfl (by rfl) (As := []) rfl rfl rfl dX10_one_149 hs (fun x2 im2 h2 => ?_)
  exact k x2 im2 h2
theorem bX10_one_152 {d : Nat} {b : Nat × Nat}  {im : XI} {Q : Option Value → XS → XI → Prop} {l1 : Int32} {s0 : Int32}  (kt : s0 = 0 → V mX10_one d b 171 [some (.ref 0), some (.int l1), none, none] [] SM im Q) (kf : ¬ s0 = 0 → V mX10_one d b 155 [some (.ref 0), some (.int l1), none, none] [] SM im Q) : V mX10_one d b 152 [some (.ref 0), some (.int l1), none, none] [.int s0] SM im Q := by
  refine V.if_eq (tgt := 171) dX10_one_152 (by decide) (fun h => ?_) (fun h => ?_)
  · exact kt h
  · exact kf h
theorem bX10_one_155 {d : Nat} {b : Nat × Nat}  {im : XI} {Q : Option Value → XS → XI → Prop} {l1 : Int32} {P : Int32 → XI → Prop}  (hs : SpI mX10_whole d [.ref 0] SM im P) (k : ∀ x2 im2, P x2 im2 → V mX10_one (d + 1) b 159 [some (.ref 0), some (.int l1), none, none] [.int x2] SM im2 Q) : V mX10_one (d + 1) b 155 [some (.ref 0), some (.int l1), none, none] [] SM im Q := by
  refine V.aload_n dX10_one_155 rfl rfl ?_
  refine V.cVI rfl vX10_whole lkX10_101 wX10_whole (ci := 10) rfl (by rfl) (As := []) rfl rfl rfl dX10_one_156 hs (fun x2 im2 h2 => ?_)
  exact k x2 im2 h2
theorem bX10_one_159 {d : Nat} {b : Nat × Nat}  {im : XI} {Q : Option Value → XS → XI → Prop} {l1 : Int32} {s0 : Int32}  (kt : s0 = 0 → V mX10_one d b 171 [some (.ref 0), some (.int l1), none, none] [] SM im Q) (kf : ¬ s0 = 0 → V mX10_one d b 162 [some (.ref 0), some (.int l1), none, none] [] SM im Q) : V mX10_one d b 159 [some (.ref 0), some (.int l1), none, none] [.int s0] SM im Q := by
  refine V.if_eq (tgt := 171) dX10_one_159 (by decide) (fun h => ?_) (fun h => ?_)
  · exact kt h
  · exact kf h
theorem bX10_one_162 {d : Nat} {b : Nat × Nat}  {im : XI} {Q : Option Value → XS → XI → Prop} {l1 : Int32} {P : Int32 → XI → Prop}  (hs : SpI mX10_look d [.ref 0] SM im P) (k : ∀ x2 im2, P x2 im2 → V mX10_one (d + 1) b 166 [some (.ref 0), some (.int l1), none, none] [.int x2] SM im2 Q) : V mX10_one (d + 1) b 162 [some (.ref 0), some (.int l1), none, none] [] SM im Q := by
  refine V.aload_n dX10_one_162 rfl rfl ?_
  refine V.cVI rfl vX10_look lkX10_71 wX10_look (ci := 10) rfl (by rfl) (As := []) rfl rfl rfl dX10_one_163 hs (fun x2 im2 h2 => ?_)
  exact k x2 im2 h2
theorem bX10_one_166 {d : Nat} {b : Nat × Nat}  {im : XI} {Q : Option Value → XS → XI → Prop} {l1 : Int32} {s0 : Int32}  (kt : s0 = (41 : Int32) → V mX10_one d b 173 [some (.ref 0), some (.int l1), none, none] [] SM im Q) (kf : ¬ s0 = (41 : Int32) → V mX10_one d b 171 [some (.ref 0), some (.int l1), none, none] [] SM im Q) : V mX10_one d b 166 [some (.ref 0), some (.int l1), none, none] [.int s0] SM im Q := by
  refine V.bipush (v := 41) dX10_one_166 (by decide) ?_
  refine V.icmp_eq (tgt := 173) dX10_one_168 (by decide) (fun h => ?_) (fun h => ?_)
  · exact kt h
  · exact kf h
theorem bX10_one_171 {d : Nat} {b : Nat × Nat}  {im : XI} {Q : Option Value → XS → XI → Prop} {l1 : Int32}  (hq : Q (some (.int (0 : Int32))) SM im) : V mX10_one d b 171 [some (.ref 0), some (.int l1), none, none] [] SM im Q := by
  refine V.iconst (v := 0) dX10_one_171 (by decide) ?_
  exact V.zret rfl (by decide) dX10_one_172 hq
theorem bX10_one_173 {d : Nat} {b : Nat × Nat}  {im : XI} {Q : Option Value → XS → XI → Prop} {l1 : Int32}  (hq : Q (some (.int (1 : Int32))) SM (xup (xup im 0 5 ((im 0 5) + (1 : Int32))) 0 6 (((xup im 0 5 ((im 0 5) + (1 : Int32))) 0 6) - (1 : Int32)))) : V mX10_one d b 173 [some (.ref 0), some (.int l1), none, none] [] SM im Q := by
  refine V.aload_n dX10_one_173 rfl rfl ?_
  refine V.dup dX10_one_174 rfl ?_
  refine V.getI fX10_57 rfl (by rfl) dX10_one_175 ?_
  refine V.iconst (v := 1) dX10_one_178 (by decide) ?_
  refine V.iadd dX10_one_179 ?_
  refine V.putI fX10_57 (fun h => by cases h) rfl (by rfl) dX10_one_180 ?_
  refine V.aload_n dX10_one_183 rfl rfl ?_
  refine V.dup dX10_one_184 rfl ?_
  refine V.getI fX10_91 rfl (by rfl) dX10_one_185 ?_
  refine V.iconst (v := 1) dX10_one_188 (by decide) ?_
  refine V.isub dX10_one_189 ?_
  refine V.putI fX10_91 (fun h => by cases h) rfl (by rfl) dX10_one_190 ?_
  refine V.iconst (v := 1) dX10_one_193 (by decide) ?_
  exact V.zret rfl (by decide) dX10_one_194 hq
theorem bX10_hasText_0 {d : Nat} {b : Nat × Nat}  {im : XI} {Q : Option Value → XS → XI → Prop} {l1 : Int32} {i1 : Nat} (g0 : ((50 : Int32) + ((125 : Int32) * l1)) = nI i1) (g1 : i1 < 384) (kt : (im 1 i1) ≤ 0 → V mX10_hasText d b 19 [some (.ref 0), some (.int l1)] [] SM im Q) (kf : ¬ (im 1 i1) ≤ 0 → V mX10_hasText d b 15 [some (.ref 0), some (.int l1)] [] SM im Q) : V mX10_hasText d b 0 [some (.ref 0), some (.int l1)] [] SM im Q := by
  refine V.aload_n dX10_hasText_0 rfl rfl ?_
  refine V.getR fX10_7 rfl (by rfl) (by rfl) dX10_hasText_1 ?_
  refine V.bipush (v := 50) dX10_hasText_4 (by decide) ?_
  refine V.bipush (v := 125) dX10_hasText_6 (by decide) ?_
  refine V.iload_n dX10_hasText_8 rfl rfl ?_
  refine V.imul dX10_hasText_9 ?_
  refine V.iadd dX10_hasText_10 ?_
  refine V.iald (i := i1) ⟨by rfl, by rfl⟩ g0 g1 dX10_hasText_11 ?_
  refine V.if_le (tgt := 19) dX10_hasText_12 (by decide) (fun h => ?_) (fun h => ?_)
  · exact kt h
  · exact kf h
theorem bX10_hasText_15 {d : Nat} {b : Nat × Nat}  {im : XI} {Q : Option Value → XS → XI → Prop} {l1 : Int32}  (k : V mX10_hasText d b 20 [some (.ref 0), some (.int l1)] [.int (1 : Int32)] SM im Q) : V mX10_hasText d b 15 [some (.ref 0), some (.int l1)] [] SM im Q := by
  refine V.iconst (v := 1) dX10_hasText_15 (by decide) ?_
  refine V.goto (tgt := 20) dX10_hasText_16 (by decide) ?_
  exact k
theorem bX10_hasText_19 {d : Nat} {b : Nat × Nat}  {im : XI} {Q : Option Value → XS → XI → Prop} {l1 : Int32}  (k : V mX10_hasText d b 20 [some (.ref 0), some (.int l1)] [.int (0 : Int32)] SM im Q) : V mX10_hasText d b 19 [some (.ref 0), some (.int l1)] [] SM im Q := by
  refine V.iconst (v := 0) dX10_hasText_19 (by decide) ?_
  exact k
theorem bX10_hasText_20 {d : Nat} {b : Nat × Nat}  {im : XI} {Q : Option Value → XS → XI → Prop} {l1 : Int32} {s0 : Int32} (g0 : s0 = 0 ∨ s0 = 1) (hq : Q (some (.int s0)) SM im) : V mX10_hasText d b 20 [some (.ref 0), some (.int l1)] [.int s0] SM im Q := by
  exact V.zret rfl g0 dX10_hasText_20 hq
theorem bX10_text_0 {d : Nat} {b : Nat × Nat}  {im : XI} {Q : Option Value → XS → XI → Prop} {l1 : Int32} {P : Int32 → XI → Prop}  (hs : SpI mX10_in d [.int l1, .int (0 : Int32), .int (1 : Int32)] SM im P) (k : ∀ x2 im2, P x2 im2 → V mX10_text (d + 1) b 6 [some (.ref 0), some (.int l1), none, none, none] [.int x2] SM im2 Q) : V mX10_text (d + 1) b 0 [some (.ref 0), some (.int l1), none, none, none] [] SM im Q := by
  refine V.iload_n dX10_text_0 rfl rfl ?_
  refine V.iconst (v := 0) dX10_text_1 (by decide) ?_
  refine V.iconst (v := 1) dX10_text_2 (by decide) ?_
  refine V.cSI rfl vX10_in lkX10_47 sX10_in (As := [.int l1, .int (0 : Int32), .int (1 : Int32)]) rfl rfl rfl dX10_text_3 hs (fun x2 im2 h2 => ?_)
  exact k x2 im2 h2
theorem bX10_text_6 {d : Nat} {b : Nat × Nat}  {im : XI} {Q : Option Value → XS → XI → Prop} {l1 : Int32} {s0 : Int32}  (kt : ¬ s0 = 0 → V mX10_text d b 15 [some (.ref 0), some (.int l1), none, none, none] [] SM im Q) (kf : s0 = 0 → V mX10_text d b 9 [some (.ref 0), some (.int l1), none, none, none] [] SM im Q) : V mX10_text d b 6 [some (.ref 0), some (.int l1), none, none, none] [.int s0] SM im Q := by
  refine V.if_ne (tgt := 15) dX10_text_6 (by decide) (fun h => ?_) (fun h => ?_)
  · exact kt h
  · exact kf h
theorem bX10_text_9 {d : Nat} {b : Nat × Nat}  {im : XI} {Q : Option Value → XS → XI → Prop} {l1 : Int32} {P : Int32 → XI → Prop}  (hs : SpI mX10_error d [.ref 0, .int (1 : Int32)] SM im P) (k : ∀ x2 im2, P x2 im2 → V mX10_text (d + 1) b 14 [some (.ref 0), some (.int l1), none, none, none] [.int x2] SM im2 Q) : V mX10_text (d + 1) b 9 [some (.ref 0), some (.int l1), none, none, none] [] SM im Q := by
  refine V.aload_n dX10_text_9 rfl rfl ?_
  refine V.iconst (v := 1) dX10_text_10 (by decide) ?_
  refine V.cVI rfl vX10_error lkX10_51 wX10_error (ci := 10) rfl (by rfl) (As := [.int (1 : Int32)]) rfl rfl rfl dX10_text_11 hs (fun x2 im2 h2 => ?_)
  exact k x2 im2 h2
theorem bX10_text_14 {d : Nat} {b : Nat × Nat}  {im : XI} {Q : Option Value → XS → XI → Prop} {l1 : Int32} {s0 : Int32}  (hq : Q (some (.int s0)) SM im) : V mX10_text d b 14 [some (.ref 0), some (.int l1), none, none, none] [.int s0] SM im Q := by
  exact V.iret rfl dX10_text_14 hq
theorem bX10_text_15 {d : Nat} {b : Nat × Nat}  {im : XI} {Q : Option Value → XS → XI → Prop} {l1 : Int32} {P : Int32 → XI → Prop}  (hs : SpI mX10_whole d [.ref 0] SM (xup (xup (xup (xup im 0 8 l1) 0 5 (0 : Int32)) 0 6 (0 : Int32)) 0 7 (0 : Int32)) P) (k : ∀ x2 im2, P x2 im2 → V mX10_text (d + 1) b 39 [some (.ref 0), some (.int l1), none, none, none] [.int x2] SM im2 Q) : V mX10_text (d + 1) b 15 [some (.ref 0), some (.int l1), none, none, none] [] SM im Q := by
  refine V.aload_n dX10_text_15 rfl rfl ?_
  refine V.iload_n dX10_text_16 rfl rfl ?_
  refine V.putI fX10_61 (fun h => by cases h) rfl (by rfl) dX10_text_17 ?_
  refine V.aload_n dX10_text_20 rfl rfl ?_
  refine V.iconst (v := 0) dX10_text_21 (by decide) ?_
  refine V.putI fX10_57 (fun h => by cases h) rfl (by rfl) dX10_text_22 ?_
  refine V.aload_n dX10_text_25 rfl rfl ?_
  refine V.iconst (v := 0) dX10_text_26 (by decide) ?_
  refine V.putI fX10_91 (fun h => by cases h) rfl (by rfl) dX10_text_27 ?_
  refine V.aload_n dX10_text_30 rfl rfl ?_
  refine V.iconst (v := 0) dX10_text_31 (by decide) ?_
  refine V.putI fX10_64 (fun h => by cases h) rfl (by rfl) dX10_text_32 ?_
  refine V.aload_n dX10_text_35 rfl rfl ?_
  refine V.cVI rfl vX10_whole lkX10_101 wX10_whole (ci := 10) rfl (by rfl) (As := []) rfl rfl rfl dX10_text_36 hs (fun x2 im2 h2 => ?_)
  exact k x2 im2 h2
theorem bX10_text_39 {d : Nat} {b : Nat × Nat}  {im : XI} {Q : Option Value → XS → XI → Prop} {l1 : Int32} {s0 : Int32}  (kt : s0 = 0 → V mX10_text d b 59 [some (.ref 0), some (.int l1), none, none, none] [] SM im Q) (kf : ¬ s0 = 0 → V mX10_text d b 42 [some (.ref 0), some (.int l1), none, none, none] [] SM im Q) : V mX10_text d b 39 [some (.ref 0), some (.int l1), none, none, none] [.int s0] SM im Q := by
  refine V.if_eq (tgt := 59) dX10_text_39 (by decide) (fun h => ?_) (fun h => ?_)
  · exact kt h
  · exact kf h
theorem bX10_text_42 {d : Nat} {b : Nat × Nat}  {im : XI} {Q : Option Value → XS → XI → Prop} {l1 : Int32}  (kt : ¬ (im 0 5) = (im 1 2) → V mX10_text d b 59 [some (.ref 0), some (.int l1), none, none, none] [] SM im Q) (kf : (im 0 5) = (im 1 2) → V mX10_text d b 55 [some (.ref 0), some (.int l1), none, none, none] [] SM im Q) : V mX10_text d b 42 [some (.ref 0), some (.int l1), none, none, none] [] SM im Q := by
  refine V.aload_n dX10_text_42 rfl rfl ?_
  refine V.getI fX10_57 rfl (by rfl) dX10_text_43 ?_
  refine V.aload_n dX10_text_46 rfl rfl ?_
  refine V.getR fX10_7 rfl (by rfl) (by rfl) dX10_text_47 ?_
  refine V.iconst (v := 2) dX10_text_50 (by decide) ?_
  refine V.iald (i := 2) ⟨by rfl, by rfl⟩ (by rfl) (by decide) dX10_text_51 ?_
  refine V.icmp_ne (tgt := 59) dX10_text_52 (by decide) (fun h => ?_) (fun h => ?_)
  · exact kt h
  · exact kf h
theorem bX10_text_55 {d : Nat} {b : Nat × Nat}  {im : XI} {Q : Option Value → XS → XI → Prop} {l1 : Int32}  (k : V mX10_text d b 60 [some (.ref 0), some (.int l1), none, none, none] [.int (1 : Int32)] SM im Q) : V mX10_text d b 55 [some (.ref 0), some (.int l1), none, none, none] [] SM im Q := by
  refine V.iconst (v := 1) dX10_text_55 (by decide) ?_
  refine V.goto (tgt := 60) dX10_text_56 (by decide) ?_
  exact k
theorem bX10_text_59 {d : Nat} {b : Nat × Nat}  {im : XI} {Q : Option Value → XS → XI → Prop} {l1 : Int32}  (k : V mX10_text d b 60 [some (.ref 0), some (.int l1), none, none, none] [.int (0 : Int32)] SM im Q) : V mX10_text d b 59 [some (.ref 0), some (.int l1), none, none, none] [] SM im Q := by
  refine V.iconst (v := 0) dX10_text_59 (by decide) ?_
  exact k
theorem bX10_text_60 {d : Nat} {b : Nat × Nat}  {im : XI} {Q : Option Value → XS → XI → Prop} {l1 : Int32} {s0 : Int32}  (kt : ¬ s0 = 0 → V mX10_text d b 80 [some (.ref 0), some (.int l1), some (.int s0), none, none] [] SM (xup im 1 2 (0 : Int32)) Q) (kf : s0 = 0 → V mX10_text d b 72 [some (.ref 0), some (.int l1), some (.int s0), none, none] [] SM (xup im 1 2 (0 : Int32)) Q) : V mX10_text d b 60 [some (.ref 0), some (.int l1), none, none, none] [.int s0] SM im Q := by
  refine V.istore_n dX10_text_60 rfl rfl rfl ?_
  refine V.aload_n dX10_text_61 rfl rfl ?_
  refine V.getR fX10_7 rfl (by rfl) (by rfl) dX10_text_62 ?_
  refine V.iconst (v := 2) dX10_text_65 (by decide) ?_
  refine V.iconst (v := 0) dX10_text_66 (by decide) ?_
  refine V.iast (i := 2) ⟨by rfl, by rfl⟩ (by rfl) (by decide) dX10_text_67 ?_
  refine V.iload_n dX10_text_68 rfl rfl ?_
  refine V.if_ne (tgt := 80) dX10_text_69 (by decide) (fun h => ?_) (fun h => ?_)
  · exact kt h
  · exact kf h
theorem bX10_text_72 {d : Nat} {b : Nat × Nat}  {im : XI} {Q : Option Value → XS → XI → Prop} {l1 : Int32} {l2 : Int32}  (hq : Q (some (.int ((-10 : Int32) - (im 0 5)))) SM im) : V mX10_text d b 72 [some (.ref 0), some (.int l1), some (.int l2), none, none] [] SM im Q := by
  refine V.bipush (v := -10) dX10_text_72 (by decide) ?_
  refine V.aload_n dX10_text_74 rfl rfl ?_
  refine V.getI fX10_57 rfl (by rfl) dX10_text_75 ?_
  refine V.isub dX10_text_78 ?_
  exact V.iret rfl dX10_text_79 hq
theorem bX10_text_80 {d : Nat} {b : Nat × Nat}  {im : XI} {Q : Option Value → XS → XI → Prop} {l1 : Int32} {l2 : Int32} {i1 : Nat} (g0 : ((50 : Int32) + ((125 : Int32) * l1)) = nI i1) (g1 : i1 < 384) (k : V mX10_text d b 101 [some (.ref 0), some (.int l1), some (.int l2), some (.int ((50 : Int32) + ((125 : Int32) * l1))), some (.int (0 : Int32))] [] SM (xup im 1 i1 (im 0 7)) Q) : V mX10_text d b 80 [some (.ref 0), some (.int l1), some (.int l2), none, none] [] SM im Q := by
  refine V.bipush (v := 50) dX10_text_80 (by decide) ?_
  refine V.bipush (v := 125) dX10_text_82 (by decide) ?_
  refine V.iload_n dX10_text_84 rfl rfl ?_
  refine V.imul dX10_text_85 ?_
  refine V.iadd dX10_text_86 ?_
  refine V.istore_n dX10_text_87 rfl rfl rfl ?_
  refine V.aload_n dX10_text_88 rfl rfl ?_
  refine V.getR fX10_7 rfl (by rfl) (by rfl) dX10_text_89 ?_
  refine V.iload_n dX10_text_92 rfl rfl ?_
  refine V.aload_n dX10_text_93 rfl rfl ?_
  refine V.getI fX10_64 rfl (by rfl) dX10_text_94 ?_
  refine V.iast (i := i1) ⟨by rfl, by rfl⟩ g0 g1 dX10_text_97 ?_
  refine V.iconst (v := 0) dX10_text_98 (by decide) ?_
  refine V.istore dX10_text_99 rfl rfl ?_
  exact k
theorem bX10_text_101 {d : Nat} {b : Nat × Nat}  {im : XI} {Q : Option Value → XS → XI → Prop} {l1 : Int32} {l2 : Int32} {l3 : Int32} {l4 : Int32}  (kt : ((2 : Int32) * (im 0 7)) ≤ l4 → V mX10_text d b 136 [some (.ref 0), some (.int l1), some (.int l2), some (.int l3), some (.int l4)] [] SM im Q) (kf : ¬ ((2 : Int32) * (im 0 7)) ≤ l4 → V mX10_text d b 112 [some (.ref 0), some (.int l1), some (.int l2), some (.int l3), some (.int l4)] [] SM im Q) : V mX10_text d b 101 [some (.ref 0), some (.int l1), some (.int l2), some (.int l3), some (.int l4)] [] SM im Q := by
  refine V.iload dX10_text_101 rfl ?_
  refine V.iconst (v := 2) dX10_text_103 (by decide) ?_
  refine V.aload_n dX10_text_104 rfl rfl ?_
  refine V.getI fX10_64 rfl (by rfl) dX10_text_105 ?_
  refine V.imul dX10_text_108 ?_
  refine V.icmp_ge (tgt := 136) dX10_text_109 (by decide) (fun h => ?_) (fun h => ?_)
  · exact kt h
  · exact kf h
theorem bX10_text_112 {d : Nat} {b : Nat × Nat}  {im : XI} {Q : Option Value → XS → XI → Prop} {l1 : Int32} {l2 : Int32} {l3 : Int32} {l4 : Int32} {i1 : Nat} {i2 : Nat} (g0 : l4 = nI i1) (g1 : i1 < 124) (g2 : ((l3 + (1 : Int32)) + l4) = nI i2) (g3 : i2 < 384) (k : V mX10_text d b 101 [some (.ref 0), some (.int l1), some (.int l2), some (.int l3), some (.int (l4 + (1 : Int32)))] [] SM (xup im 1 i2 (im 5 i1)) Q) : V mX10_text d b 112 [some (.ref 0), some (.int l1), some (.int l2), some (.int l3), some (.int l4)] [] SM im Q := by
  refine V.aload_n dX10_text_112 rfl rfl ?_
  refine V.getR fX10_7 rfl (by rfl) (by rfl) dX10_text_113 ?_
  refine V.iload_n dX10_text_116 rfl rfl ?_
  refine V.iconst (v := 1) dX10_text_117 (by decide) ?_
  refine V.iadd dX10_text_118 ?_
  refine V.iload dX10_text_119 rfl ?_
  refine V.iadd dX10_text_121 ?_
  refine V.aload_n dX10_text_122 rfl rfl ?_
  refine V.getR fX10_22 rfl (by rfl) (by rfl) dX10_text_123 ?_
  refine V.iload dX10_text_126 rfl ?_
  refine V.iald (i := i1) ⟨by rfl, by rfl⟩ g0 g1 dX10_text_128 ?_
  refine V.iast (i := i2) ⟨by rfl, by rfl⟩ g2 g3 dX10_text_129 ?_
  refine V.iinc (v := (l4 + (1 : Int32))) dX10_text_130 rfl rfl rfl ?_
  refine V.goto (tgt := 101) dX10_text_133 (by decide) ?_
  exact k
theorem bX10_text_136 {d : Nat} {b : Nat × Nat}  {im : XI} {Q : Option Value → XS → XI → Prop} {l1 : Int32} {l2 : Int32} {l3 : Int32} {l4 : Int32}  (hq : Q (some (.int (1 : Int32))) SM im) : V mX10_text d b 136 [some (.ref 0), some (.int l1), some (.int l2), some (.int l3), some (.int l4)] [] SM im Q := by
  refine V.iconst (v := 1) dX10_text_136 (by decide) ?_
  exact V.iret rfl dX10_text_137 hq
theorem bX10_untell_0 {d : Nat} {b : Nat × Nat}  {im : XI} {Q : Option Value → XS → XI → Prop} {l1 : Int32} {P : Int32 → XI → Prop}  (hs : SpI mX10_in d [.int l1, .int (0 : Int32), .int (1 : Int32)] SM im P) (k : ∀ x2 im2, P x2 im2 → V mX10_untell (d + 1) b 6 [some (.ref 0), some (.int l1), none] [.int x2] SM im2 Q) : V mX10_untell (d + 1) b 0 [some (.ref 0), some (.int l1), none] [] SM im Q := by
  refine V.iload_n dX10_untell_0 rfl rfl ?_
  refine V.iconst (v := 0) dX10_untell_1 (by decide) ?_
  refine V.iconst (v := 1) dX10_untell_2 (by decide) ?_
  refine V.cSI rfl vX10_in lkX10_47 sX10_in (As := [.int l1, .int (0 : Int32), .int (1 : Int32)]) rfl rfl rfl dX10_untell_3 hs (fun x2 im2 h2 => ?_)
  exact k x2 im2 h2
theorem bX10_untell_6 {d : Nat} {b : Nat × Nat}  {im : XI} {Q : Option Value → XS → XI → Prop} {l1 : Int32} {s0 : Int32}  (kt : ¬ s0 = 0 → V mX10_untell d b 15 [some (.ref 0), some (.int l1), none] [] SM im Q) (kf : s0 = 0 → V mX10_untell d b 9 [some (.ref 0), some (.int l1), none] [] SM im Q) : V mX10_untell d b 6 [some (.ref 0), some (.int l1), none] [.int s0] SM im Q := by
  refine V.if_ne (tgt := 15) dX10_untell_6 (by decide) (fun h => ?_) (fun h => ?_)
  · exact kt h
  · exact kf h
theorem bX10_untell_9 {d : Nat} {b : Nat × Nat}  {im : XI} {Q : Option Value → XS → XI → Prop} {l1 : Int32} {P : Int32 → XI → Prop}  (hs : SpI mX10_error d [.ref 0, .int (1 : Int32)] SM im P) (k : ∀ x2 im2, P x2 im2 → V mX10_untell (d + 1) b 14 [some (.ref 0), some (.int l1), none] [.int x2] SM im2 Q) : V mX10_untell (d + 1) b 9 [some (.ref 0), some (.int l1), none] [] SM im Q := by
  refine V.aload_n dX10_untell_9 rfl rfl ?_
  refine V.iconst (v := 1) dX10_untell_10 (by decide) ?_
  refine V.cVI rfl vX10_error lkX10_51 wX10_error (ci := 10) rfl (by rfl) (As := [.int (1 : Int32)]) rfl rfl rfl dX10_untell_11 hs (fun x2 im2 h2 => ?_)
  exact k x2 im2 h2
theorem bX10_untell_14 {d : Nat} {b : Nat × Nat}  {im : XI} {Q : Option Value → XS → XI → Prop} {l1 : Int32} {s0 : Int32}  (hq : Q (some (.int s0)) SM im) : V mX10_untell d b 14 [some (.ref 0), some (.int l1), none] [.int s0] SM im Q := by
  exact V.iret rfl dX10_untell_14 hq
theorem bX10_untell_15 {d : Nat} {b : Nat × Nat}  {im : XI} {Q : Option Value → XS → XI → Prop} {l1 : Int32} {P : Int32 → XI → Prop}  (hs : SpI mX10_hasText d [.ref 0, .int l1] SM im P) (k : ∀ x2 im2, P x2 im2 → V mX10_untell (d + 1) b 20 [some (.ref 0), some (.int l1), none] [.int x2] SM im2 Q) : V mX10_untell (d + 1) b 15 [some (.ref 0), some (.int l1), none] [] SM im Q := by
  refine V.aload_n dX10_untell_15 rfl rfl ?_
  refine V.iload_n dX10_untell_16 rfl rfl ?_
  refine V.cVI rfl vX10_hasText lkX10_104 wX10_hasText (ci := 10) rfl (by rfl) (As := [.int l1]) rfl rfl rfl dX10_untell_17 hs (fun x2 im2 h2 => ?_)
  exact k x2 im2 h2
theorem bX10_untell_20 {d : Nat} {b : Nat × Nat}  {im : XI} {Q : Option Value → XS → XI → Prop} {l1 : Int32} {s0 : Int32}  (kt : s0 = 0 → V mX10_untell d b 27 [some (.ref 0), some (.int l1), none] [] SM im Q) (kf : ¬ s0 = 0 → V mX10_untell d b 23 [some (.ref 0), some (.int l1), none] [] SM im Q) : V mX10_untell d b 20 [some (.ref 0), some (.int l1), none] [.int s0] SM im Q := by
  refine V.if_eq (tgt := 27) dX10_untell_20 (by decide) (fun h => ?_) (fun h => ?_)
  · exact kt h
  · exact kf h
theorem bX10_untell_23 {d : Nat} {b : Nat × Nat}  {im : XI} {Q : Option Value → XS → XI → Prop} {l1 : Int32}  (k : V mX10_untell d b 28 [some (.ref 0), some (.int l1), none] [.int (1 : Int32)] SM im Q) : V mX10_untell d b 23 [some (.ref 0), some (.int l1), none] [] SM im Q := by
  refine V.iconst (v := 1) dX10_untell_23 (by decide) ?_
  refine V.goto (tgt := 28) dX10_untell_24 (by decide) ?_
  exact k
theorem bX10_untell_27 {d : Nat} {b : Nat × Nat}  {im : XI} {Q : Option Value → XS → XI → Prop} {l1 : Int32}  (k : V mX10_untell d b 28 [some (.ref 0), some (.int l1), none] [.int (0 : Int32)] SM im Q) : V mX10_untell d b 27 [some (.ref 0), some (.int l1), none] [] SM im Q := by
  refine V.iconst (v := 0) dX10_untell_27 (by decide) ?_
  exact k
theorem bX10_untell_28 {d : Nat} {b : Nat × Nat}  {im : XI} {Q : Option Value → XS → XI → Prop} {l1 : Int32} {s0 : Int32} {i1 : Nat} (g0 : ((50 : Int32) + ((125 : Int32) * l1)) = nI i1) (g1 : i1 < 384) (hq : Q (some (.int s0)) SM (xup im 1 i1 (0 : Int32))) : V mX10_untell d b 28 [some (.ref 0), some (.int l1), none] [.int s0] SM im Q := by
  refine V.istore_n dX10_untell_28 rfl rfl rfl ?_
  refine V.aload_n dX10_untell_29 rfl rfl ?_
  refine V.getR fX10_7 rfl (by rfl) (by rfl) dX10_untell_30 ?_
  refine V.bipush (v := 50) dX10_untell_33 (by decide) ?_
  refine V.bipush (v := 125) dX10_untell_35 (by decide) ?_
  refine V.iload_n dX10_untell_37 rfl rfl ?_
  refine V.imul dX10_untell_38 ?_
  refine V.iadd dX10_untell_39 ?_
  refine V.iconst (v := 0) dX10_untell_40 (by decide) ?_
  refine V.iast (i := i1) ⟨by rfl, by rfl⟩ g0 g1 dX10_untell_41 ?_
  refine V.iload_n dX10_untell_42 rfl rfl ?_
  exact V.iret rfl dX10_untell_43 hq
theorem bX10_joined_0 {d : Nat} {b : Nat × Nat} {S : XS} {im : XI} {Q : Option Value → XS → XI → Prop} {l0 : Int32} {l1 : Int32} {l2 : Int32}  (k0 : l0 = 37 → V mX10_joined d b 154 [some (.int l0), some (.int l1), some (.int l2)] [] S im Q) (k1 : l0 = 38 → V mX10_joined d b 204 [some (.int l0), some (.int l1), some (.int l2)] [] S im Q) (k2 : l0 = 42 → V mX10_joined d b 128 [some (.int l0), some (.int l1), some (.int l2)] [] S im Q) (k3 : l0 = 43 → V mX10_joined d b 120 [some (.int l0), some (.int l1), some (.int l2)] [] S im Q) (k4 : l0 = 45 → V mX10_joined d b 124 [some (.int l0), some (.int l1), some (.int l2)] [] S im Q) (k5 : l0 = 47 → V mX10_joined d b 132 [some (.int l0), some (.int l1), some (.int l2)] [] S im Q) (k6 : l0 = 60 → V mX10_joined d b 171 [some (.int l0), some (.int l1), some (.int l2)] [] S im Q) (k7 : l0 = 61 → V mX10_joined d b 193 [some (.int l0), some (.int l1), some (.int l2)] [] S im Q) (k8 : l0 = 62 → V mX10_joined d b 182 [some (.int l0), some (.int l1), some (.int l2)] [] S im Q) (kd : ¬ l0 = 37 → ¬ l0 = 38 → ¬ l0 = 42 → ¬ l0 = 43 → ¬ l0 = 45 → ¬ l0 = 47 → ¬ l0 = 60 → ¬ l0 = 61 → ¬ l0 = 62 → V mX10_joined d b 218 [some (.int l0), some (.int l1), some (.int l2)] [] S im Q) : V mX10_joined d b 0 [some (.int l0), some (.int l1), some (.int l2)] [] S im Q := by
  refine V.iload_n dX10_joined_0 rfl rfl ?_
  by_cases c0 : l0 = 37
  · exact V.tableIn (tgt := 154) (off := 153) dX10_joined_1 (by rw [c0]; decide) (by rw [c0]; decide) (by rw [c0] <;> rfl) (by decide) (k0 c0)
  · skip
    by_cases c1 : l0 = 38
    · exact V.tableIn (tgt := 204) (off := 203) dX10_joined_1 (by rw [c1]; decide) (by rw [c1]; decide) (by rw [c1] <;> rfl) (by decide) (k1 c1)
    · skip
      by_cases c2 : l0 = 39
      · exact V.tableIn (tgt := 218) (off := 217) dX10_joined_1 (by rw [c2]; decide) (by rw [c2]; decide) (by rw [c2] <;> rfl) (by decide) (kd c0 c1 (by rw [c2]; decide) (by rw [c2]; decide) (by rw [c2]; decide) (by rw [c2]; decide) (by rw [c2]; decide) (by rw [c2]; decide) (by rw [c2]; decide))
      · skip
        by_cases c3 : l0 = 40
        · exact V.tableIn (tgt := 218) (off := 217) dX10_joined_1 (by rw [c3]; decide) (by rw [c3]; decide) (by rw [c3] <;> rfl) (by decide) (kd c0 c1 (by rw [c3]; decide) (by rw [c3]; decide) (by rw [c3]; decide) (by rw [c3]; decide) (by rw [c3]; decide) (by rw [c3]; decide) (by rw [c3]; decide))
        · skip
          by_cases c4 : l0 = 41
          · exact V.tableIn (tgt := 218) (off := 217) dX10_joined_1 (by rw [c4]; decide) (by rw [c4]; decide) (by rw [c4] <;> rfl) (by decide) (kd c0 c1 (by rw [c4]; decide) (by rw [c4]; decide) (by rw [c4]; decide) (by rw [c4]; decide) (by rw [c4]; decide) (by rw [c4]; decide) (by rw [c4]; decide))
          · skip
            by_cases c5 : l0 = 42
            · exact V.tableIn (tgt := 128) (off := 127) dX10_joined_1 (by rw [c5]; decide) (by rw [c5]; decide) (by rw [c5] <;> rfl) (by decide) (k2 c5)
            · skip
              by_cases c6 : l0 = 43
              · exact V.tableIn (tgt := 120) (off := 119) dX10_joined_1 (by rw [c6]; decide) (by rw [c6]; decide) (by rw [c6] <;> rfl) (by decide) (k3 c6)
              · skip
                by_cases c7 : l0 = 44
                · exact V.tableIn (tgt := 218) (off := 217) dX10_joined_1 (by rw [c7]; decide) (by rw [c7]; decide) (by rw [c7] <;> rfl) (by decide) (kd c0 c1 c5 c6 (by rw [c7]; decide) (by rw [c7]; decide) (by rw [c7]; decide) (by rw [c7]; decide) (by rw [c7]; decide))
                · skip
                  by_cases c8 : l0 = 45
                  · exact V.tableIn (tgt := 124) (off := 123) dX10_joined_1 (by rw [c8]; decide) (by rw [c8]; decide) (by rw [c8] <;> rfl) (by decide) (k4 c8)
                  · skip
                    by_cases c9 : l0 = 46
                    · exact V.tableIn (tgt := 218) (off := 217) dX10_joined_1 (by rw [c9]; decide) (by rw [c9]; decide) (by rw [c9] <;> rfl) (by decide) (kd c0 c1 c5 c6 c8 (by rw [c9]; decide) (by rw [c9]; decide) (by rw [c9]; decide) (by rw [c9]; decide))
                    · skip
                      by_cases c10 : l0 = 47
                      · exact V.tableIn (tgt := 132) (off := 131) dX10_joined_1 (by rw [c10]; decide) (by rw [c10]; decide) (by rw [c10] <;> rfl) (by decide) (k5 c10)
                      · skip
                        by_cases c11 : l0 = 48
                        · exact V.tableIn (tgt := 218) (off := 217) dX10_joined_1 (by rw [c11]; decide) (by rw [c11]; decide) (by rw [c11] <;> rfl) (by decide) (kd c0 c1 c5 c6 c8 c10 (by rw [c11]; decide) (by rw [c11]; decide) (by rw [c11]; decide))
                        · skip
                          by_cases c12 : l0 = 49
                          · exact V.tableIn (tgt := 218) (off := 217) dX10_joined_1 (by rw [c12]; decide) (by rw [c12]; decide) (by rw [c12] <;> rfl) (by decide) (kd c0 c1 c5 c6 c8 c10 (by rw [c12]; decide) (by rw [c12]; decide) (by rw [c12]; decide))
                          · skip
                            by_cases c13 : l0 = 50
                            · exact V.tableIn (tgt := 218) (off := 217) dX10_joined_1 (by rw [c13]; decide) (by rw [c13]; decide) (by rw [c13] <;> rfl) (by decide) (kd c0 c1 c5 c6 c8 c10 (by rw [c13]; decide) (by rw [c13]; decide) (by rw [c13]; decide))
                            · skip
                              by_cases c14 : l0 = 51
                              · exact V.tableIn (tgt := 218) (off := 217) dX10_joined_1 (by rw [c14]; decide) (by rw [c14]; decide) (by rw [c14] <;> rfl) (by decide) (kd c0 c1 c5 c6 c8 c10 (by rw [c14]; decide) (by rw [c14]; decide) (by rw [c14]; decide))
                              · skip
                                by_cases c15 : l0 = 52
                                · exact V.tableIn (tgt := 218) (off := 217) dX10_joined_1 (by rw [c15]; decide) (by rw [c15]; decide) (by rw [c15] <;> rfl) (by decide) (kd c0 c1 c5 c6 c8 c10 (by rw [c15]; decide) (by rw [c15]; decide) (by rw [c15]; decide))
                                · skip
                                  by_cases c16 : l0 = 53
                                  · exact V.tableIn (tgt := 218) (off := 217) dX10_joined_1 (by rw [c16]; decide) (by rw [c16]; decide) (by rw [c16] <;> rfl) (by decide) (kd c0 c1 c5 c6 c8 c10 (by rw [c16]; decide) (by rw [c16]; decide) (by rw [c16]; decide))
                                  · skip
                                    by_cases c17 : l0 = 54
                                    · exact V.tableIn (tgt := 218) (off := 217) dX10_joined_1 (by rw [c17]; decide) (by rw [c17]; decide) (by rw [c17] <;> rfl) (by decide) (kd c0 c1 c5 c6 c8 c10 (by rw [c17]; decide) (by rw [c17]; decide) (by rw [c17]; decide))
                                    · skip
                                      by_cases c18 : l0 = 55
                                      · exact V.tableIn (tgt := 218) (off := 217) dX10_joined_1 (by rw [c18]; decide) (by rw [c18]; decide) (by rw [c18] <;> rfl) (by decide) (kd c0 c1 c5 c6 c8 c10 (by rw [c18]; decide) (by rw [c18]; decide) (by rw [c18]; decide))
                                      · skip
                                        by_cases c19 : l0 = 56
                                        · exact V.tableIn (tgt := 218) (off := 217) dX10_joined_1 (by rw [c19]; decide) (by rw [c19]; decide) (by rw [c19] <;> rfl) (by decide) (kd c0 c1 c5 c6 c8 c10 (by rw [c19]; decide) (by rw [c19]; decide) (by rw [c19]; decide))
                                        · skip
                                          by_cases c20 : l0 = 57
                                          · exact V.tableIn (tgt := 218) (off := 217) dX10_joined_1 (by rw [c20]; decide) (by rw [c20]; decide) (by rw [c20] <;> rfl) (by decide) (kd c0 c1 c5 c6 c8 c10 (by rw [c20]; decide) (by rw [c20]; decide) (by rw [c20]; decide))
                                          · skip
                                            by_cases c21 : l0 = 58
                                            · exact V.tableIn (tgt := 218) (off := 217) dX10_joined_1 (by rw [c21]; decide) (by rw [c21]; decide) (by rw [c21] <;> rfl) (by decide) (kd c0 c1 c5 c6 c8 c10 (by rw [c21]; decide) (by rw [c21]; decide) (by rw [c21]; decide))
                                            · skip
                                              by_cases c22 : l0 = 59
                                              · exact V.tableIn (tgt := 218) (off := 217) dX10_joined_1 (by rw [c22]; decide) (by rw [c22]; decide) (by rw [c22] <;> rfl) (by decide) (kd c0 c1 c5 c6 c8 c10 (by rw [c22]; decide) (by rw [c22]; decide) (by rw [c22]; decide))
                                              · skip
                                                by_cases c23 : l0 = 60
                                                · exact V.tableIn (tgt := 171) (off := 170) dX10_joined_1 (by rw [c23]; decide) (by rw [c23]; decide) (by rw [c23] <;> rfl) (by decide) (k6 c23)
                                                · skip
                                                  by_cases c24 : l0 = 61
                                                  · exact V.tableIn (tgt := 193) (off := 192) dX10_joined_1 (by rw [c24]; decide) (by rw [c24]; decide) (by rw [c24] <;> rfl) (by decide) (k7 c24)
                                                  · skip
                                                    by_cases c25 : l0 = 62
                                                    · exact V.tableIn (tgt := 182) (off := 181) dX10_joined_1 (by rw [c25]; decide) (by rw [c25]; decide) (by rw [c25] <;> rfl) (by decide) (k8 c25)
                                                    · skip
                                                      exact V.tableOut (tgt := 218) dX10_joined_1 (by have qc0 := lv_neT c0 (a := 37) rfl; have qc1 := lv_neT c1 (a := 38) rfl; have qc2 := lv_neT c2 (a := 39) rfl; have qc3 := lv_neT c3 (a := 40) rfl; have qc4 := lv_neT c4 (a := 41) rfl; have qc5 := lv_neT c5 (a := 42) rfl; have qc6 := lv_neT c6 (a := 43) rfl; have qc7 := lv_neT c7 (a := 44) rfl; have qc8 := lv_neT c8 (a := 45) rfl; have qc9 := lv_neT c9 (a := 46) rfl; have qc10 := lv_neT c10 (a := 47) rfl; have qc11 := lv_neT c11 (a := 48) rfl; have qc12 := lv_neT c12 (a := 49) rfl; have qc13 := lv_neT c13 (a := 50) rfl; have qc14 := lv_neT c14 (a := 51) rfl; have qc15 := lv_neT c15 (a := 52) rfl; have qc16 := lv_neT c16 (a := 53) rfl; have qc17 := lv_neT c17 (a := 54) rfl; have qc18 := lv_neT c18 (a := 55) rfl; have qc19 := lv_neT c19 (a := 56) rfl; have qc20 := lv_neT c20 (a := 57) rfl; have qc21 := lv_neT c21 (a := 58) rfl; have qc22 := lv_neT c22 (a := 59) rfl; have qc23 := lv_neT c23 (a := 60) rfl; have qc24 := lv_neT c24 (a := 61) rfl; have qc25 := lv_neT c25 (a := 62) rfl; omega) (by decide) (kd c0 c1 c5 c6 c8 c10 c23 c24 c25)
theorem bX10_joined_120 {d : Nat} {b : Nat × Nat} {S : XS} {im : XI} {Q : Option Value → XS → XI → Prop} {l0 : Int32} {l1 : Int32} {l2 : Int32}  (hq : Q (some (.int (l1 + l2))) S im) : V mX10_joined d b 120 [some (.int l0), some (.int l1), some (.int l2)] [] S im Q := by
  refine V.iload_n dX10_joined_120 rfl rfl ?_
  refine V.iload_n dX10_joined_121 rfl rfl ?_
  refine V.iadd dX10_joined_122 ?_
  exact V.iret rfl dX10_joined_123 hq
theorem bX10_joined_124 {d : Nat} {b : Nat × Nat} {S : XS} {im : XI} {Q : Option Value → XS → XI → Prop} {l0 : Int32} {l1 : Int32} {l2 : Int32}  (hq : Q (some (.int (l1 - l2))) S im) : V mX10_joined d b 124 [some (.int l0), some (.int l1), some (.int l2)] [] S im Q := by
  refine V.iload_n dX10_joined_124 rfl rfl ?_
  refine V.iload_n dX10_joined_125 rfl rfl ?_
  refine V.isub dX10_joined_126 ?_
  exact V.iret rfl dX10_joined_127 hq
theorem bX10_joined_128 {d : Nat} {b : Nat × Nat} {S : XS} {im : XI} {Q : Option Value → XS → XI → Prop} {l0 : Int32} {l1 : Int32} {l2 : Int32}  (hq : Q (some (.int (l1 * l2))) S im) : V mX10_joined d b 128 [some (.int l0), some (.int l1), some (.int l2)] [] S im Q := by
  refine V.iload_n dX10_joined_128 rfl rfl ?_
  refine V.iload_n dX10_joined_129 rfl rfl ?_
  refine V.imul dX10_joined_130 ?_
  exact V.iret rfl dX10_joined_131 hq
theorem bX10_joined_132 {d : Nat} {b : Nat × Nat} {S : XS} {im : XI} {Q : Option Value → XS → XI → Prop} {l0 : Int32} {l1 : Int32} {l2 : Int32}  (kt : ¬ l2 = 0 → V mX10_joined d b 140 [some (.int l0), some (.int l1), some (.int l2)] [] S im Q) (kf : l2 = 0 → V mX10_joined d b 136 [some (.int l0), some (.int l1), some (.int l2)] [] S im Q) : V mX10_joined d b 132 [some (.int l0), some (.int l1), some (.int l2)] [] S im Q := by
  refine V.iload_n dX10_joined_132 rfl rfl ?_
  refine V.if_ne (tgt := 140) dX10_joined_133 (by decide) (fun h => ?_) (fun h => ?_)
  · exact kt h
  · exact kf h
theorem bX10_joined_136 {d : Nat} {b : Nat × Nat} {S : XS} {im : XI} {Q : Option Value → XS → XI → Prop} {l0 : Int32} {l1 : Int32} {l2 : Int32}  (k : V mX10_joined d b 153 [some (.int l0), some (.int l1), some (.int l2)] [.int (0 : Int32)] S im Q) : V mX10_joined d b 136 [some (.int l0), some (.int l1), some (.int l2)] [] S im Q := by
  refine V.iconst (v := 0) dX10_joined_136 (by decide) ?_
  refine V.goto (tgt := 153) dX10_joined_137 (by decide) ?_
  exact k
theorem bX10_joined_140 {d : Nat} {b : Nat × Nat} {S : XS} {im : XI} {Q : Option Value → XS → XI → Prop} {l0 : Int32} {l1 : Int32} {l2 : Int32}  (kt : ¬ l2 = (-1 : Int32) → V mX10_joined d b 150 [some (.int l0), some (.int l1), some (.int l2)] [] S im Q) (kf : l2 = (-1 : Int32) → V mX10_joined d b 145 [some (.int l0), some (.int l1), some (.int l2)] [] S im Q) : V mX10_joined d b 140 [some (.int l0), some (.int l1), some (.int l2)] [] S im Q := by
  refine V.iload_n dX10_joined_140 rfl rfl ?_
  refine V.iconst (v := -1) dX10_joined_141 (by decide) ?_
  refine V.icmp_ne (tgt := 150) dX10_joined_142 (by decide) (fun h => ?_) (fun h => ?_)
  · exact kt h
  · exact kf h
theorem bX10_joined_145 {d : Nat} {b : Nat × Nat} {S : XS} {im : XI} {Q : Option Value → XS → XI → Prop} {l0 : Int32} {l1 : Int32} {l2 : Int32}  (k : V mX10_joined d b 153 [some (.int l0), some (.int l1), some (.int l2)] [.int (-l1)] S im Q) : V mX10_joined d b 145 [some (.int l0), some (.int l1), some (.int l2)] [] S im Q := by
  refine V.iload_n dX10_joined_145 rfl rfl ?_
  refine V.ineg dX10_joined_146 ?_
  refine V.goto (tgt := 153) dX10_joined_147 (by decide) ?_
  exact k
theorem bX10_joined_150 {d : Nat} {b : Nat × Nat} {S : XS} {im : XI} {Q : Option Value → XS → XI → Prop} {l0 : Int32} {l1 : Int32} {l2 : Int32} (g0 : ¬ l2 = 0) (k : V mX10_joined d b 153 [some (.int l0), some (.int l1), some (.int l2)] [.int (l1 / l2)] S im Q) : V mX10_joined d b 150 [some (.int l0), some (.int l1), some (.int l2)] [] S im Q := by
  refine V.iload_n dX10_joined_150 rfl rfl ?_
  refine V.iload_n dX10_joined_151 rfl rfl ?_
  refine V.idiv dX10_joined_152 g0 ?_
  exact k
theorem bX10_joined_153 {d : Nat} {b : Nat × Nat} {S : XS} {im : XI} {Q : Option Value → XS → XI → Prop} {l0 : Int32} {l1 : Int32} {l2 : Int32} {s0 : Int32}  (hq : Q (some (.int s0)) S im) : V mX10_joined d b 153 [some (.int l0), some (.int l1), some (.int l2)] [.int s0] S im Q := by
  exact V.iret rfl dX10_joined_153 hq
theorem bX10_joined_154 {d : Nat} {b : Nat × Nat} {S : XS} {im : XI} {Q : Option Value → XS → XI → Prop} {l0 : Int32} {l1 : Int32} {l2 : Int32}  (kt : l2 = 0 → V mX10_joined d b 163 [some (.int l0), some (.int l1), some (.int l2)] [] S im Q) (kf : ¬ l2 = 0 → V mX10_joined d b 158 [some (.int l0), some (.int l1), some (.int l2)] [] S im Q) : V mX10_joined d b 154 [some (.int l0), some (.int l1), some (.int l2)] [] S im Q := by
  refine V.iload_n dX10_joined_154 rfl rfl ?_
  refine V.if_eq (tgt := 163) dX10_joined_155 (by decide) (fun h => ?_) (fun h => ?_)
  · exact kt h
  · exact kf h
theorem bX10_joined_158 {d : Nat} {b : Nat × Nat} {S : XS} {im : XI} {Q : Option Value → XS → XI → Prop} {l0 : Int32} {l1 : Int32} {l2 : Int32}  (kt : ¬ l2 = (-1 : Int32) → V mX10_joined d b 167 [some (.int l0), some (.int l1), some (.int l2)] [] S im Q) (kf : l2 = (-1 : Int32) → V mX10_joined d b 163 [some (.int l0), some (.int l1), some (.int l2)] [] S im Q) : V mX10_joined d b 158 [some (.int l0), some (.int l1), some (.int l2)] [] S im Q := by
  refine V.iload_n dX10_joined_158 rfl rfl ?_
  refine V.iconst (v := -1) dX10_joined_159 (by decide) ?_
  refine V.icmp_ne (tgt := 167) dX10_joined_160 (by decide) (fun h => ?_) (fun h => ?_)
  · exact kt h
  · exact kf h
theorem bX10_joined_163 {d : Nat} {b : Nat × Nat} {S : XS} {im : XI} {Q : Option Value → XS → XI → Prop} {l0 : Int32} {l1 : Int32} {l2 : Int32}  (k : V mX10_joined d b 170 [some (.int l0), some (.int l1), some (.int l2)] [.int (0 : Int32)] S im Q) : V mX10_joined d b 163 [some (.int l0), some (.int l1), some (.int l2)] [] S im Q := by
  refine V.iconst (v := 0) dX10_joined_163 (by decide) ?_
  refine V.goto (tgt := 170) dX10_joined_164 (by decide) ?_
  exact k
theorem bX10_joined_167 {d : Nat} {b : Nat × Nat} {S : XS} {im : XI} {Q : Option Value → XS → XI → Prop} {l0 : Int32} {l1 : Int32} {l2 : Int32} (g0 : ¬ l2 = 0) (k : V mX10_joined d b 170 [some (.int l0), some (.int l1), some (.int l2)] [.int (l1 - l1 / l2 * l2)] S im Q) : V mX10_joined d b 167 [some (.int l0), some (.int l1), some (.int l2)] [] S im Q := by
  refine V.iload_n dX10_joined_167 rfl rfl ?_
  refine V.iload_n dX10_joined_168 rfl rfl ?_
  refine V.irem dX10_joined_169 g0 ?_
  exact k
theorem bX10_joined_170 {d : Nat} {b : Nat × Nat} {S : XS} {im : XI} {Q : Option Value → XS → XI → Prop} {l0 : Int32} {l1 : Int32} {l2 : Int32} {s0 : Int32}  (hq : Q (some (.int s0)) S im) : V mX10_joined d b 170 [some (.int l0), some (.int l1), some (.int l2)] [.int s0] S im Q := by
  exact V.iret rfl dX10_joined_170 hq
theorem bX10_joined_171 {d : Nat} {b : Nat × Nat} {S : XS} {im : XI} {Q : Option Value → XS → XI → Prop} {l0 : Int32} {l1 : Int32} {l2 : Int32}  (kt : l2 ≤ l1 → V mX10_joined d b 180 [some (.int l0), some (.int l1), some (.int l2)] [] S im Q) (kf : ¬ l2 ≤ l1 → V mX10_joined d b 176 [some (.int l0), some (.int l1), some (.int l2)] [] S im Q) : V mX10_joined d b 171 [some (.int l0), some (.int l1), some (.int l2)] [] S im Q := by
  refine V.iload_n dX10_joined_171 rfl rfl ?_
  refine V.iload_n dX10_joined_172 rfl rfl ?_
  refine V.icmp_ge (tgt := 180) dX10_joined_173 (by decide) (fun h => ?_) (fun h => ?_)
  · exact kt h
  · exact kf h
theorem bX10_joined_176 {d : Nat} {b : Nat × Nat} {S : XS} {im : XI} {Q : Option Value → XS → XI → Prop} {l0 : Int32} {l1 : Int32} {l2 : Int32}  (k : V mX10_joined d b 181 [some (.int l0), some (.int l1), some (.int l2)] [.int (1 : Int32)] S im Q) : V mX10_joined d b 176 [some (.int l0), some (.int l1), some (.int l2)] [] S im Q := by
  refine V.iconst (v := 1) dX10_joined_176 (by decide) ?_
  refine V.goto (tgt := 181) dX10_joined_177 (by decide) ?_
  exact k
theorem bX10_joined_180 {d : Nat} {b : Nat × Nat} {S : XS} {im : XI} {Q : Option Value → XS → XI → Prop} {l0 : Int32} {l1 : Int32} {l2 : Int32}  (k : V mX10_joined d b 181 [some (.int l0), some (.int l1), some (.int l2)] [.int (0 : Int32)] S im Q) : V mX10_joined d b 180 [some (.int l0), some (.int l1), some (.int l2)] [] S im Q := by
  refine V.iconst (v := 0) dX10_joined_180 (by decide) ?_
  exact k
theorem bX10_joined_181 {d : Nat} {b : Nat × Nat} {S : XS} {im : XI} {Q : Option Value → XS → XI → Prop} {l0 : Int32} {l1 : Int32} {l2 : Int32} {s0 : Int32}  (hq : Q (some (.int s0)) S im) : V mX10_joined d b 181 [some (.int l0), some (.int l1), some (.int l2)] [.int s0] S im Q := by
  exact V.iret rfl dX10_joined_181 hq
theorem bX10_joined_182 {d : Nat} {b : Nat × Nat} {S : XS} {im : XI} {Q : Option Value → XS → XI → Prop} {l0 : Int32} {l1 : Int32} {l2 : Int32}  (kt : l1 ≤ l2 → V mX10_joined d b 191 [some (.int l0), some (.int l1), some (.int l2)] [] S im Q) (kf : ¬ l1 ≤ l2 → V mX10_joined d b 187 [some (.int l0), some (.int l1), some (.int l2)] [] S im Q) : V mX10_joined d b 182 [some (.int l0), some (.int l1), some (.int l2)] [] S im Q := by
  refine V.iload_n dX10_joined_182 rfl rfl ?_
  refine V.iload_n dX10_joined_183 rfl rfl ?_
  refine V.icmp_le (tgt := 191) dX10_joined_184 (by decide) (fun h => ?_) (fun h => ?_)
  · exact kt h
  · exact kf h
theorem bX10_joined_187 {d : Nat} {b : Nat × Nat} {S : XS} {im : XI} {Q : Option Value → XS → XI → Prop} {l0 : Int32} {l1 : Int32} {l2 : Int32}  (k : V mX10_joined d b 192 [some (.int l0), some (.int l1), some (.int l2)] [.int (1 : Int32)] S im Q) : V mX10_joined d b 187 [some (.int l0), some (.int l1), some (.int l2)] [] S im Q := by
  refine V.iconst (v := 1) dX10_joined_187 (by decide) ?_
  refine V.goto (tgt := 192) dX10_joined_188 (by decide) ?_
  exact k
theorem bX10_joined_191 {d : Nat} {b : Nat × Nat} {S : XS} {im : XI} {Q : Option Value → XS → XI → Prop} {l0 : Int32} {l1 : Int32} {l2 : Int32}  (k : V mX10_joined d b 192 [some (.int l0), some (.int l1), some (.int l2)] [.int (0 : Int32)] S im Q) : V mX10_joined d b 191 [some (.int l0), some (.int l1), some (.int l2)] [] S im Q := by
  refine V.iconst (v := 0) dX10_joined_191 (by decide) ?_
  exact k
theorem bX10_joined_192 {d : Nat} {b : Nat × Nat} {S : XS} {im : XI} {Q : Option Value → XS → XI → Prop} {l0 : Int32} {l1 : Int32} {l2 : Int32} {s0 : Int32}  (hq : Q (some (.int s0)) S im) : V mX10_joined d b 192 [some (.int l0), some (.int l1), some (.int l2)] [.int s0] S im Q := by
  exact V.iret rfl dX10_joined_192 hq
theorem bX10_joined_193 {d : Nat} {b : Nat × Nat} {S : XS} {im : XI} {Q : Option Value → XS → XI → Prop} {l0 : Int32} {l1 : Int32} {l2 : Int32}  (kt : ¬ l1 = l2 → V mX10_joined d b 202 [some (.int l0), some (.int l1), some (.int l2)] [] S im Q) (kf : l1 = l2 → V mX10_joined d b 198 [some (.int l0), some (.int l1), some (.int l2)] [] S im Q) : V mX10_joined d b 193 [some (.int l0), some (.int l1), some (.int l2)] [] S im Q := by
  refine V.iload_n dX10_joined_193 rfl rfl ?_
  refine V.iload_n dX10_joined_194 rfl rfl ?_
  refine V.icmp_ne (tgt := 202) dX10_joined_195 (by decide) (fun h => ?_) (fun h => ?_)
  · exact kt h
  · exact kf h
theorem bX10_joined_198 {d : Nat} {b : Nat × Nat} {S : XS} {im : XI} {Q : Option Value → XS → XI → Prop} {l0 : Int32} {l1 : Int32} {l2 : Int32}  (k : V mX10_joined d b 203 [some (.int l0), some (.int l1), some (.int l2)] [.int (1 : Int32)] S im Q) : V mX10_joined d b 198 [some (.int l0), some (.int l1), some (.int l2)] [] S im Q := by
  refine V.iconst (v := 1) dX10_joined_198 (by decide) ?_
  refine V.goto (tgt := 203) dX10_joined_199 (by decide) ?_
  exact k
theorem bX10_joined_202 {d : Nat} {b : Nat × Nat} {S : XS} {im : XI} {Q : Option Value → XS → XI → Prop} {l0 : Int32} {l1 : Int32} {l2 : Int32}  (k : V mX10_joined d b 203 [some (.int l0), some (.int l1), some (.int l2)] [.int (0 : Int32)] S im Q) : V mX10_joined d b 202 [some (.int l0), some (.int l1), some (.int l2)] [] S im Q := by
  refine V.iconst (v := 0) dX10_joined_202 (by decide) ?_
  exact k
theorem bX10_joined_203 {d : Nat} {b : Nat × Nat} {S : XS} {im : XI} {Q : Option Value → XS → XI → Prop} {l0 : Int32} {l1 : Int32} {l2 : Int32} {s0 : Int32}  (hq : Q (some (.int s0)) S im) : V mX10_joined d b 203 [some (.int l0), some (.int l1), some (.int l2)] [.int s0] S im Q := by
  exact V.iret rfl dX10_joined_203 hq
theorem bX10_joined_204 {d : Nat} {b : Nat × Nat} {S : XS} {im : XI} {Q : Option Value → XS → XI → Prop} {l0 : Int32} {l1 : Int32} {l2 : Int32}  (kt : l1 = 0 → V mX10_joined d b 216 [some (.int l0), some (.int l1), some (.int l2)] [] S im Q) (kf : ¬ l1 = 0 → V mX10_joined d b 208 [some (.int l0), some (.int l1), some (.int l2)] [] S im Q) : V mX10_joined d b 204 [some (.int l0), some (.int l1), some (.int l2)] [] S im Q := by
  refine V.iload_n dX10_joined_204 rfl rfl ?_
  refine V.if_eq (tgt := 216) dX10_joined_205 (by decide) (fun h => ?_) (fun h => ?_)
  · exact kt h
  · exact kf h
theorem bX10_joined_208 {d : Nat} {b : Nat × Nat} {S : XS} {im : XI} {Q : Option Value → XS → XI → Prop} {l0 : Int32} {l1 : Int32} {l2 : Int32}  (kt : l2 = 0 → V mX10_joined d b 216 [some (.int l0), some (.int l1), some (.int l2)] [] S im Q) (kf : ¬ l2 = 0 → V mX10_joined d b 212 [some (.int l0), some (.int l1), some (.int l2)] [] S im Q) : V mX10_joined d b 208 [some (.int l0), some (.int l1), some (.int l2)] [] S im Q := by
  refine V.iload_n dX10_joined_208 rfl rfl ?_
  refine V.if_eq (tgt := 216) dX10_joined_209 (by decide) (fun h => ?_) (fun h => ?_)
  · exact kt h
  · exact kf h
theorem bX10_joined_212 {d : Nat} {b : Nat × Nat} {S : XS} {im : XI} {Q : Option Value → XS → XI → Prop} {l0 : Int32} {l1 : Int32} {l2 : Int32}  (k : V mX10_joined d b 217 [some (.int l0), some (.int l1), some (.int l2)] [.int (1 : Int32)] S im Q) : V mX10_joined d b 212 [some (.int l0), some (.int l1), some (.int l2)] [] S im Q := by
  refine V.iconst (v := 1) dX10_joined_212 (by decide) ?_
  refine V.goto (tgt := 217) dX10_joined_213 (by decide) ?_
  exact k
theorem bX10_joined_216 {d : Nat} {b : Nat × Nat} {S : XS} {im : XI} {Q : Option Value → XS → XI → Prop} {l0 : Int32} {l1 : Int32} {l2 : Int32}  (k : V mX10_joined d b 217 [some (.int l0), some (.int l1), some (.int l2)] [.int (0 : Int32)] S im Q) : V mX10_joined d b 216 [some (.int l0), some (.int l1), some (.int l2)] [] S im Q := by
  refine V.iconst (v := 0) dX10_joined_216 (by decide) ?_
  exact k
theorem bX10_joined_217 {d : Nat} {b : Nat × Nat} {S : XS} {im : XI} {Q : Option Value → XS → XI → Prop} {l0 : Int32} {l1 : Int32} {l2 : Int32} {s0 : Int32}  (hq : Q (some (.int s0)) S im) : V mX10_joined d b 217 [some (.int l0), some (.int l1), some (.int l2)] [.int s0] S im Q := by
  exact V.iret rfl dX10_joined_217 hq
theorem bX10_joined_218 {d : Nat} {b : Nat × Nat} {S : XS} {im : XI} {Q : Option Value → XS → XI → Prop} {l0 : Int32} {l1 : Int32} {l2 : Int32}  (kt : ¬ l1 = 0 → V mX10_joined d b 226 [some (.int l0), some (.int l1), some (.int l2)] [] S im Q) (kf : l1 = 0 → V mX10_joined d b 222 [some (.int l0), some (.int l1), some (.int l2)] [] S im Q) : V mX10_joined d b 218 [some (.int l0), some (.int l1), some (.int l2)] [] S im Q := by
  refine V.iload_n dX10_joined_218 rfl rfl ?_
  refine V.if_ne (tgt := 226) dX10_joined_219 (by decide) (fun h => ?_) (fun h => ?_)
  · exact kt h
  · exact kf h
theorem bX10_joined_222 {d : Nat} {b : Nat × Nat} {S : XS} {im : XI} {Q : Option Value → XS → XI → Prop} {l0 : Int32} {l1 : Int32} {l2 : Int32}  (kt : l2 = 0 → V mX10_joined d b 230 [some (.int l0), some (.int l1), some (.int l2)] [] S im Q) (kf : ¬ l2 = 0 → V mX10_joined d b 226 [some (.int l0), some (.int l1), some (.int l2)] [] S im Q) : V mX10_joined d b 222 [some (.int l0), some (.int l1), some (.int l2)] [] S im Q := by
  refine V.iload_n dX10_joined_222 rfl rfl ?_
  refine V.if_eq (tgt := 230) dX10_joined_223 (by decide) (fun h => ?_) (fun h => ?_)
  · exact kt h
  · exact kf h
theorem bX10_joined_226 {d : Nat} {b : Nat × Nat} {S : XS} {im : XI} {Q : Option Value → XS → XI → Prop} {l0 : Int32} {l1 : Int32} {l2 : Int32}  (k : V mX10_joined d b 231 [some (.int l0), some (.int l1), some (.int l2)] [.int (1 : Int32)] S im Q) : V mX10_joined d b 226 [some (.int l0), some (.int l1), some (.int l2)] [] S im Q := by
  refine V.iconst (v := 1) dX10_joined_226 (by decide) ?_
  refine V.goto (tgt := 231) dX10_joined_227 (by decide) ?_
  exact k
theorem bX10_joined_230 {d : Nat} {b : Nat × Nat} {S : XS} {im : XI} {Q : Option Value → XS → XI → Prop} {l0 : Int32} {l1 : Int32} {l2 : Int32}  (k : V mX10_joined d b 231 [some (.int l0), some (.int l1), some (.int l2)] [.int (0 : Int32)] S im Q) : V mX10_joined d b 230 [some (.int l0), some (.int l1), some (.int l2)] [] S im Q := by
  refine V.iconst (v := 0) dX10_joined_230 (by decide) ?_
  exact k
theorem bX10_joined_231 {d : Nat} {b : Nat × Nat} {S : XS} {im : XI} {Q : Option Value → XS → XI → Prop} {l0 : Int32} {l1 : Int32} {l2 : Int32} {s0 : Int32}  (hq : Q (some (.int s0)) S im) : V mX10_joined d b 231 [some (.int l0), some (.int l1), some (.int l2)] [.int s0] S im Q := by
  exact V.iret rfl dX10_joined_231 hq
theorem bX10_worked_0 {d : Nat} {b : Nat × Nat}  {im : XI} {Q : Option Value → XS → XI → Prop} {l1 : Int32}  (k : V mX10_worked d b 13 [some (.ref 0), some (.int l1), some (.int ((50 : Int32) + ((125 : Int32) * l1))), some (.int (0 : Int32)), some (.int (0 : Int32)), none, none] [] SM im Q) : V mX10_worked d b 0 [some (.ref 0), some (.int l1), none, none, none, none, none] [] SM im Q := by
  refine V.bipush (v := 50) dX10_worked_0 (by decide) ?_
  refine V.bipush (v := 125) dX10_worked_2 (by decide) ?_
  refine V.iload_n dX10_worked_4 rfl rfl ?_
  refine V.imul dX10_worked_5 ?_
  refine V.iadd dX10_worked_6 ?_
  refine V.istore_n dX10_worked_7 rfl rfl rfl ?_
  refine V.iconst (v := 0) dX10_worked_8 (by decide) ?_
  refine V.istore_n dX10_worked_9 rfl rfl rfl ?_
  refine V.iconst (v := 0) dX10_worked_10 (by decide) ?_
  refine V.istore dX10_worked_11 rfl rfl ?_
  exact k
theorem bX10_worked_13 {d : Nat} {b : Nat × Nat}  {im : XI} {Q : Option Value → XS → XI → Prop} {l1 : Int32} {l2 : Int32} {l3 : Int32} {l4 : Int32} {i1 : Nat} (g0 : l2 = nI i1) (g1 : i1 < 384) (kt : (im 1 i1) ≤ l4 → V mX10_worked d b 163 [some (.ref 0), some (.int l1), some (.int l2), some (.int l3), some (.int l4), none, none] [] SM im Q) (kf : ¬ (im 1 i1) ≤ l4 → V mX10_worked d b 24 [some (.ref 0), some (.int l1), some (.int l2), some (.int l3), some (.int l4), none, none] [] SM im Q) : V mX10_worked d b 13 [some (.ref 0), some (.int l1), some (.int l2), some (.int l3), some (.int l4), none, none] [] SM im Q := by
  refine V.iload dX10_worked_13 rfl ?_
  refine V.aload_n dX10_worked_15 rfl rfl ?_
  refine V.getR fX10_7 rfl (by rfl) (by rfl) dX10_worked_16 ?_
  refine V.iload_n dX10_worked_19 rfl rfl ?_
  refine V.iald (i := i1) ⟨by rfl, by rfl⟩ g0 g1 dX10_worked_20 ?_
  refine V.icmp_ge (tgt := 163) dX10_worked_21 (by decide) (fun h => ?_) (fun h => ?_)
  · exact kt h
  · exact kf h
theorem bX10_worked_24 {d : Nat} {b : Nat × Nat}  {im : XI} {Q : Option Value → XS → XI → Prop} {l1 : Int32} {l2 : Int32} {l3 : Int32} {l4 : Int32} {i1 : Nat} {i2 : Nat} (g0 : ((l2 + (1 : Int32)) + ((2 : Int32) * l4)) = nI i1) (g1 : i1 < 384) (g2 : ((l2 + (2 : Int32)) + ((2 : Int32) * l4)) = nI i2) (g3 : i2 < 384) (kt : (im 1 i1) = 0 → V mX10_worked d b 65 [some (.ref 0), some (.int l1), some (.int l2), some (.int l3), some (.int l4), some (.int (im 1 i1)), some (.int (im 1 i2))] [] SM im Q) (kf : ¬ (im 1 i1) = 0 → V mX10_worked d b 59 [some (.ref 0), some (.int l1), some (.int l2), some (.int l3), some (.int l4), some (.int (im 1 i1)), some (.int (im 1 i2))] [] SM im Q) : V mX10_worked d b 24 [some (.ref 0), some (.int l1), some (.int l2), some (.int l3), some (.int l4), none, none] [] SM im Q := by
  refine V.aload_n dX10_worked_24 rfl rfl ?_
  refine V.getR fX10_7 rfl (by rfl) (by rfl) dX10_worked_25 ?_
  refine V.iload_n dX10_worked_28 rfl rfl ?_
  refine V.iconst (v := 1) dX10_worked_29 (by decide) ?_
  refine V.iadd dX10_worked_30 ?_
  refine V.iconst (v := 2) dX10_worked_31 (by decide) ?_
  refine V.iload dX10_worked_32 rfl ?_
  refine V.imul dX10_worked_34 ?_
  refine V.iadd dX10_worked_35 ?_
  refine V.iald (i := i1) ⟨by rfl, by rfl⟩ g0 g1 dX10_worked_36 ?_
  refine V.istore dX10_worked_37 rfl rfl ?_
  refine V.aload_n dX10_worked_39 rfl rfl ?_
  refine V.getR fX10_7 rfl (by rfl) (by rfl) dX10_worked_40 ?_
  refine V.iload_n dX10_worked_43 rfl rfl ?_
  refine V.iconst (v := 2) dX10_worked_44 (by decide) ?_
  refine V.iadd dX10_worked_45 ?_
  refine V.iconst (v := 2) dX10_worked_46 (by decide) ?_
  refine V.iload dX10_worked_47 rfl ?_
  refine V.imul dX10_worked_49 ?_
  refine V.iadd dX10_worked_50 ?_
  refine V.iald (i := i2) ⟨by rfl, by rfl⟩ g2 g3 dX10_worked_51 ?_
  refine V.istore dX10_worked_52 rfl rfl ?_
  refine V.iload dX10_worked_54 rfl ?_
  refine V.if_eq (tgt := 65) dX10_worked_56 (by decide) (fun h => ?_) (fun h => ?_)
  · exact kt h
  · exact kf h
theorem bX10_worked_59 {d : Nat} {b : Nat × Nat}  {im : XI} {Q : Option Value → XS → XI → Prop} {l1 : Int32} {l2 : Int32} {l3 : Int32} {l4 : Int32} {l5 : Int32} {l6 : Int32}  (kt : ¬ l5 = (1 : Int32) → V mX10_worked d b 94 [some (.ref 0), some (.int l1), some (.int l2), some (.int l3), some (.int l4), some (.int l5), some (.int l6)] [] SM im Q) (kf : l5 = (1 : Int32) → V mX10_worked d b 65 [some (.ref 0), some (.int l1), some (.int l2), some (.int l3), some (.int l4), some (.int l5), some (.int l6)] [] SM im Q) : V mX10_worked d b 59 [some (.ref 0), some (.int l1), some (.int l2), some (.int l3), some (.int l4), some (.int l5), some (.int l6)] [] SM im Q := by
  refine V.iload dX10_worked_59 rfl ?_
  refine V.iconst (v := 1) dX10_worked_61 (by decide) ?_
  refine V.icmp_ne (tgt := 94) dX10_worked_62 (by decide) (fun h => ?_) (fun h => ?_)
  · exact kt h
  · exact kf h
theorem bX10_worked_65 {d : Nat} {b : Nat × Nat}  {im : XI} {Q : Option Value → XS → XI → Prop} {l1 : Int32} {l2 : Int32} {l3 : Int32} {l4 : Int32} {l5 : Int32} {l6 : Int32}  (kt : ¬ l5 = 0 → V mX10_worked d b 80 [some (.ref 0), some (.int l1), some (.int l2), some (.int l3), some (.int l4), some (.int l5), some (.int l6)] [.int l3, .ref 7] SM im Q) (kf : l5 = 0 → V mX10_worked d b 75 [some (.ref 0), some (.int l1), some (.int l2), some (.int l3), some (.int l4), some (.int l5), some (.int l6)] [.int l3, .ref 7] SM im Q) : V mX10_worked d b 65 [some (.ref 0), some (.int l1), some (.int l2), some (.int l3), some (.int l4), some (.int l5), some (.int l6)] [] SM im Q := by
  refine V.aload_n dX10_worked_65 rfl rfl ?_
  refine V.getR fX10_28 rfl (by rfl) (by rfl) dX10_worked_66 ?_
  refine V.iload_n dX10_worked_69 rfl rfl ?_
  refine V.iload dX10_worked_70 rfl ?_
  refine V.if_ne (tgt := 80) dX10_worked_72 (by decide) (fun h => ?_) (fun h => ?_)
  · exact kt h
  · exact kf h
theorem bX10_worked_75 {d : Nat} {b : Nat × Nat}  {im : XI} {Q : Option Value → XS → XI → Prop} {l1 : Int32} {l2 : Int32} {l3 : Int32} {l4 : Int32} {l5 : Int32} {l6 : Int32} {s0 : Nat} {s1 : Int32}  (k : V mX10_worked d b 87 [some (.ref 0), some (.int l1), some (.int l2), some (.int l3), some (.int l4), some (.int l5), some (.int l6)] [.int l6, .int s1, .ref s0] SM im Q) : V mX10_worked d b 75 [some (.ref 0), some (.int l1), some (.int l2), some (.int l3), some (.int l4), some (.int l5), some (.int l6)] [.int s1, .ref s0] SM im Q := by
  refine V.iload dX10_worked_75 rfl ?_
  refine V.goto (tgt := 87) dX10_worked_77 (by decide) ?_
  exact k
theorem bX10_worked_80 {d : Nat} {b : Nat × Nat}  {im : XI} {Q : Option Value → XS → XI → Prop} {l1 : Int32} {l2 : Int32} {l3 : Int32} {l4 : Int32} {l5 : Int32} {l6 : Int32} {s0 : Nat} {s1 : Int32} {i1 : Nat} (g0 : l6 = nI i1) (g1 : i1 < 128) (k : V mX10_worked d b 87 [some (.ref 0), some (.int l1), some (.int l2), some (.int l3), some (.int l4), some (.int l5), some (.int l6)] [.int (im 6 i1), .int s1, .ref s0] SM im Q) : V mX10_worked d b 80 [some (.ref 0), some (.int l1), some (.int l2), some (.int l3), some (.int l4), some (.int l5), some (.int l6)] [.int s1, .ref s0] SM im Q := by
  refine V.aload_n dX10_worked_80 rfl rfl ?_
  refine V.getR fX10_25 rfl (by rfl) (by rfl) dX10_worked_81 ?_
  refine V.iload dX10_worked_84 rfl ?_
  refine V.iald (i := i1) ⟨by rfl, by rfl⟩ g0 g1 dX10_worked_86 ?_
  exact k
theorem bX10_worked_87 {d : Nat} {b : Nat × Nat}  {im : XI} {Q : Option Value → XS → XI → Prop} {l1 : Int32} {l2 : Int32} {l3 : Int32} {l4 : Int32} {l5 : Int32} {l6 : Int32} {s0 : Nat} {s1 : Int32} {s2 : Int32} {n1 : Nat} {i2 : Nat} (g0 : XA SM s0 n1) (g1 : s1 = nI i2) (g2 : i2 < n1) (k : V mX10_worked d b 157 [some (.ref 0), some (.int l1), some (.int l2), some (.int (l3 + (1 : Int32))), some (.int l4), some (.int l5), some (.int l6)] [] SM (xup im s0 i2 s2) Q) : V mX10_worked d b 87 [some (.ref 0), some (.int l1), some (.int l2), some (.int l3), some (.int l4), some (.int l5), some (.int l6)] [.int s2, .int s1, .ref s0] SM im Q := by
  refine V.iast (i := i2) g0 g1 g2 dX10_worked_87 ?_
  refine V.iinc (v := (l3 + (1 : Int32))) dX10_worked_88 rfl rfl rfl ?_
  refine V.goto (tgt := 157) dX10_worked_91 (by decide) ?_
  exact k
theorem bX10_worked_94 {d : Nat} {b : Nat × Nat}  {im : XI} {Q : Option Value → XS → XI → Prop} {l1 : Int32} {l2 : Int32} {l3 : Int32} {l4 : Int32} {l5 : Int32} {l6 : Int32}  (kt : ¬ l5 = (2 : Int32) → V mX10_worked d b 127 [some (.ref 0), some (.int l1), some (.int l2), some (.int l3), some (.int l4), some (.int l5), some (.int l6)] [] SM im Q) (kf : l5 = (2 : Int32) → V mX10_worked d b 100 [some (.ref 0), some (.int l1), some (.int l2), some (.int l3), some (.int l4), some (.int l5), some (.int l6)] [] SM im Q) : V mX10_worked d b 94 [some (.ref 0), some (.int l1), some (.int l2), some (.int l3), some (.int l4), some (.int l5), some (.int l6)] [] SM im Q := by
  refine V.iload dX10_worked_94 rfl ?_
  refine V.iconst (v := 2) dX10_worked_96 (by decide) ?_
  refine V.icmp_ne (tgt := 127) dX10_worked_97 (by decide) (fun h => ?_) (fun h => ?_)
  · exact kt h
  · exact kf h
theorem bX10_worked_100 {d : Nat} {b : Nat × Nat}  {im : XI} {Q : Option Value → XS → XI → Prop} {l1 : Int32} {l2 : Int32} {l3 : Int32} {l4 : Int32} {l5 : Int32} {l6 : Int32} {i1 : Nat} (g0 : (l3 - (1 : Int32)) = nI i1) (g1 : i1 < 64) (kt : ¬ (im 7 i1) = 0 → V mX10_worked d b 122 [some (.ref 0), some (.int l1), some (.int l2), some (.int l3), some (.int l4), some (.int l5), some (.int l6)] [.int (l3 - (1 : Int32)), .ref 7] SM im Q) (kf : (im 7 i1) = 0 → V mX10_worked d b 118 [some (.ref 0), some (.int l1), some (.int l2), some (.int l3), some (.int l4), some (.int l5), some (.int l6)] [.int (l3 - (1 : Int32)), .ref 7] SM im Q) : V mX10_worked d b 100 [some (.ref 0), some (.int l1), some (.int l2), some (.int l3), some (.int l4), some (.int l5), some (.int l6)] [] SM im Q := by
  refine V.aload_n dX10_worked_100 rfl rfl ?_
  refine V.getR fX10_28 rfl (by rfl) (by rfl) dX10_worked_101 ?_
  refine V.iload_n dX10_worked_104 rfl rfl ?_
  refine V.iconst (v := 1) dX10_worked_105 (by decide) ?_
  refine V.isub dX10_worked_106 ?_
  refine V.aload_n dX10_worked_107 rfl rfl ?_
  refine V.getR fX10_28 rfl (by rfl) (by rfl) dX10_worked_108 ?_
  refine V.iload_n dX10_worked_111 rfl rfl ?_
  refine V.iconst (v := 1) dX10_worked_112 (by decide) ?_
  refine V.isub dX10_worked_113 ?_
  refine V.iald (i := i1) ⟨by rfl, by rfl⟩ g0 g1 dX10_worked_114 ?_
  refine V.if_ne (tgt := 122) dX10_worked_115 (by decide) (fun h => ?_) (fun h => ?_)
  · exact kt h
  · exact kf h
theorem bX10_worked_118 {d : Nat} {b : Nat × Nat}  {im : XI} {Q : Option Value → XS → XI → Prop} {l1 : Int32} {l2 : Int32} {l3 : Int32} {l4 : Int32} {l5 : Int32} {l6 : Int32} {s0 : Nat} {s1 : Int32}  (k : V mX10_worked d b 123 [some (.ref 0), some (.int l1), some (.int l2), some (.int l3), some (.int l4), some (.int l5), some (.int l6)] [.int (1 : Int32), .int s1, .ref s0] SM im Q) : V mX10_worked d b 118 [some (.ref 0), some (.int l1), some (.int l2), some (.int l3), some (.int l4), some (.int l5), some (.int l6)] [.int s1, .ref s0] SM im Q := by
  refine V.iconst (v := 1) dX10_worked_118 (by decide) ?_
  refine V.goto (tgt := 123) dX10_worked_119 (by decide) ?_
  exact k
theorem bX10_worked_122 {d : Nat} {b : Nat × Nat}  {im : XI} {Q : Option Value → XS → XI → Prop} {l1 : Int32} {l2 : Int32} {l3 : Int32} {l4 : Int32} {l5 : Int32} {l6 : Int32} {s0 : Nat} {s1 : Int32}  (k : V mX10_worked d b 123 [some (.ref 0), some (.int l1), some (.int l2), some (.int l3), some (.int l4), some (.int l5), some (.int l6)] [.int (0 : Int32), .int s1, .ref s0] SM im Q) : V mX10_worked d b 122 [some (.ref 0), some (.int l1), some (.int l2), some (.int l3), some (.int l4), some (.int l5), some (.int l6)] [.int s1, .ref s0] SM im Q := by
  refine V.iconst (v := 0) dX10_worked_122 (by decide) ?_
  exact k
theorem bX10_worked_123 {d : Nat} {b : Nat × Nat}  {im : XI} {Q : Option Value → XS → XI → Prop} {l1 : Int32} {l2 : Int32} {l3 : Int32} {l4 : Int32} {l5 : Int32} {l6 : Int32} {s0 : Nat} {s1 : Int32} {s2 : Int32} {n1 : Nat} {i2 : Nat} (g0 : XA SM s0 n1) (g1 : s1 = nI i2) (g2 : i2 < n1) (k : V mX10_worked d b 157 [some (.ref 0), some (.int l1), some (.int l2), some (.int l3), some (.int l4), some (.int l5), some (.int l6)] [] SM (xup im s0 i2 s2) Q) : V mX10_worked d b 123 [some (.ref 0), some (.int l1), some (.int l2), some (.int l3), some (.int l4), some (.int l5), some (.int l6)] [.int s2, .int s1, .ref s0] SM im Q := by
  refine V.iast (i := i2) g0 g1 g2 dX10_worked_123 ?_
  refine V.goto (tgt := 157) dX10_worked_124 (by decide) ?_
  exact k
theorem bX10_worked_127 {d : Nat} {b : Nat × Nat}  {im : XI} {Q : Option Value → XS → XI → Prop} {l1 : Int32} {l2 : Int32} {l3 : Int32} {l4 : Int32} {l5 : Int32} {l6 : Int32} {i1 : Nat} {i2 : Nat} {P : Int32 → XI → Prop} (g0 : ((l3 + (-1 : Int32)) - (1 : Int32)) = nI i1) (g1 : i1 < 64) (g2 : (l3 + (-1 : Int32)) = nI i2) (g3 : i2 < 64) (hs : SpI mX10_joined d [.int l6, .int (im 7 i1), .int (im 7 i2)] SM im P) (k : ∀ x2 im2, P x2 im2 → V mX10_worked (d + 1) b 156 [some (.ref 0), some (.int l1), some (.int l2), some (.int (l3 + (-1 : Int32))), some (.int l4), some (.int l5), some (.int l6)] [.int x2, .int ((l3 + (-1 : Int32)) - (1 : Int32)), .ref 7] SM im2 Q) : V mX10_worked (d + 1) b 127 [some (.ref 0), some (.int l1), some (.int l2), some (.int l3), some (.int l4), some (.int l5), some (.int l6)] [] SM im Q := by
  refine V.iinc (v := (l3 + (-1 : Int32))) dX10_worked_127 rfl rfl rfl ?_
  refine V.aload_n dX10_worked_130 rfl rfl ?_
  refine V.getR fX10_28 rfl (by rfl) (by rfl) dX10_worked_131 ?_
  refine V.iload_n dX10_worked_134 rfl rfl ?_
  refine V.iconst (v := 1) dX10_worked_135 (by decide) ?_
  refine V.isub dX10_worked_136 ?_
  refine V.iload dX10_worked_137 rfl ?_
  refine V.aload_n dX10_worked_139 rfl rfl ?_
  refine V.getR fX10_28 rfl (by rfl) (by rfl) dX10_worked_140 ?_
  refine V.iload_n dX10_worked_143 rfl rfl ?_
  refine V.iconst (v := 1) dX10_worked_144 (by decide) ?_
  refine V.isub dX10_worked_145 ?_
  refine V.iald (i := i1) ⟨by rfl, by rfl⟩ g0 g1 dX10_worked_146 ?_
  refine V.aload_n dX10_worked_147 rfl rfl ?_
  refine V.getR fX10_28 rfl (by rfl) (by rfl) dX10_worked_148 ?_
  refine V.iload_n dX10_worked_151 rfl rfl ?_
  refine V.iald (i := i2) ⟨by rfl, by rfl⟩ g2 g3 dX10_worked_152 ?_
  refine V.cSI rfl vX10_joined lkX10_107 sX10_joined (As := [.int l6, .int (im 7 i1), .int (im 7 i2)]) rfl rfl rfl dX10_worked_153 hs (fun x2 im2 h2 => ?_)
  exact k x2 im2 h2
theorem bX10_worked_156 {d : Nat} {b : Nat × Nat}  {im : XI} {Q : Option Value → XS → XI → Prop} {l1 : Int32} {l2 : Int32} {l3 : Int32} {l4 : Int32} {l5 : Int32} {l6 : Int32} {s0 : Nat} {s1 : Int32} {s2 : Int32} {n1 : Nat} {i2 : Nat} (g0 : XA SM s0 n1) (g1 : s1 = nI i2) (g2 : i2 < n1) (k : V mX10_worked d b 157 [some (.ref 0), some (.int l1), some (.int l2), some (.int l3), some (.int l4), some (.int l5), some (.int l6)] [] SM (xup im s0 i2 s2) Q) : V mX10_worked d b 156 [some (.ref 0), some (.int l1), some (.int l2), some (.int l3), some (.int l4), some (.int l5), some (.int l6)] [.int s2, .int s1, .ref s0] SM im Q := by
  refine V.iast (i := i2) g0 g1 g2 dX10_worked_156 ?_
  exact k
theorem bX10_worked_157 {d : Nat} {b : Nat × Nat}  {im : XI} {Q : Option Value → XS → XI → Prop} {l1 : Int32} {l2 : Int32} {l3 : Int32} {l4 : Int32} {l5 : Int32} {l6 : Int32}  (k : V mX10_worked d b 13 [some (.ref 0), some (.int l1), some (.int l2), some (.int l3), some (.int (l4 + (1 : Int32))), none, none] [] SM im Q) : V mX10_worked d b 157 [some (.ref 0), some (.int l1), some (.int l2), some (.int l3), some (.int l4), some (.int l5), some (.int l6)] [] SM im Q := by
  refine V.iinc (v := (l4 + (1 : Int32))) dX10_worked_157 rfl rfl rfl ?_
  refine V.goto (tgt := 13) dX10_worked_160 (by decide) ?_
  exact V.weakm [true, true, true, true, true, false, false] rfl (k)
theorem bX10_worked_163 {d : Nat} {b : Nat × Nat}  {im : XI} {Q : Option Value → XS → XI → Prop} {l1 : Int32} {l2 : Int32} {l3 : Int32} {l4 : Int32}  (hq : Q (some (.int (im 7 0))) SM im) : V mX10_worked d b 163 [some (.ref 0), some (.int l1), some (.int l2), some (.int l3), some (.int l4), none, none] [] SM im Q := by
  refine V.aload_n dX10_worked_163 rfl rfl ?_
  refine V.getR fX10_28 rfl (by rfl) (by rfl) dX10_worked_164 ?_
  refine V.iconst (v := 0) dX10_worked_167 (by decide) ?_
  refine V.iald (i := 0) ⟨by rfl, by rfl⟩ (by rfl) (by decide) dX10_worked_168 ?_
  exact V.iret rfl dX10_worked_169 hq
theorem bX10_blinksNow_0 {d : Nat} {b : Nat × Nat}  {im : XI} {Q : Option Value → XS → XI → Prop} {l1 : Int32} {P : Int32 → XI → Prop}  (hs : SpI mX10_its d [.ref 0, .int l1, .int (1 : Int32)] SM im P) (k : ∀ x2 im2, P x2 im2 → V mX10_blinksNow (d + 1) b 13 [some (.ref 0), some (.int l1), some (.int (im 1 0)), none, none, none] [.int x2] SM im2 Q) : V mX10_blinksNow (d + 1) b 0 [some (.ref 0), some (.int l1), none, none, none, none] [] SM im Q := by
  refine V.aload_n dX10_blinksNow_0 rfl rfl ?_
  refine V.getR fX10_7 rfl (by rfl) (by rfl) dX10_blinksNow_1 ?_
  refine V.iconst (v := 0) dX10_blinksNow_4 (by decide) ?_
  refine V.iald (i := 0) ⟨by rfl, by rfl⟩ (by rfl) (by decide) dX10_blinksNow_5 ?_
  refine V.istore_n dX10_blinksNow_6 rfl rfl rfl ?_
  refine V.aload_n dX10_blinksNow_7 rfl rfl ?_
  refine V.iload_n dX10_blinksNow_8 rfl rfl ?_
  refine V.iconst (v := 1) dX10_blinksNow_9 (by decide) ?_
  refine V.cVI rfl vX10_its lkX10_111 wX10_its (ci := 10) rfl (by rfl) (As := [.int l1, .int (1 : Int32)]) rfl rfl rfl dX10_blinksNow_10 hs (fun x2 im2 h2 => ?_)
  exact k x2 im2 h2
theorem bX10_blinksNow_13 {d : Nat} {b : Nat × Nat}  {im : XI} {Q : Option Value → XS → XI → Prop} {l1 : Int32} {l2 : Int32} {s0 : Int32} {P : Int32 → XI → Prop}  (hs : SpI mX10_its d [.ref 0, .int l1, .int (3 : Int32)] SM im P) (k : ∀ x2 im2, P x2 im2 → V mX10_blinksNow (d + 1) b 21 [some (.ref 0), some (.int l1), some (.int l2), some (.int s0), none, none] [.int x2, .int l2] SM im2 Q) : V mX10_blinksNow (d + 1) b 13 [some (.ref 0), some (.int l1), some (.int l2), none, none, none] [.int s0] SM im Q := by
  refine V.istore_n dX10_blinksNow_13 rfl rfl rfl ?_
  refine V.iload_n dX10_blinksNow_14 rfl rfl ?_
  refine V.aload_n dX10_blinksNow_15 rfl rfl ?_
  refine V.iload_n dX10_blinksNow_16 rfl rfl ?_
  refine V.iconst (v := 3) dX10_blinksNow_17 (by decide) ?_
  refine V.cVI rfl vX10_its lkX10_111 wX10_its (ci := 10) rfl (by rfl) (As := [.int l1, .int (3 : Int32)]) rfl rfl rfl dX10_blinksNow_18 hs (fun x2 im2 h2 => ?_)
  exact k x2 im2 h2
theorem bX10_blinksNow_21 {d : Nat} {b : Nat × Nat}  {im : XI} {Q : Option Value → XS → XI → Prop} {l1 : Int32} {l2 : Int32} {l3 : Int32} {s0 : Int32} {s1 : Int32} {P : Int32 → XI → Prop}  (hs : SpI mX10_its d [.ref 0, .int l1, .int (2 : Int32)] SM im P) (k : ∀ x2 im2, P x2 im2 → V mX10_blinksNow (d + 1) b 28 [some (.ref 0), some (.int l1), some (.int l2), some (.int l3), none, none] [.int x2, .int (s0 + s1)] SM im2 Q) : V mX10_blinksNow (d + 1) b 21 [some (.ref 0), some (.int l1), some (.int l2), some (.int l3), none, none] [.int s1, .int s0] SM im Q := by
  refine V.iadd dX10_blinksNow_21 ?_
  refine V.aload_n dX10_blinksNow_22 rfl rfl ?_
  refine V.iload_n dX10_blinksNow_23 rfl rfl ?_
  refine V.iconst (v := 2) dX10_blinksNow_24 (by decide) ?_
  refine V.cVI rfl vX10_its lkX10_111 wX10_its (ci := 10) rfl (by rfl) (As := [.int l1, .int (2 : Int32)]) rfl rfl rfl dX10_blinksNow_25 hs (fun x2 im2 h2 => ?_)
  exact k x2 im2 h2
theorem bX10_blinksNow_28 {d : Nat} {b : Nat × Nat}  {im : XI} {Q : Option Value → XS → XI → Prop} {l1 : Int32} {l2 : Int32} {l3 : Int32} {s0 : Int32} {s1 : Int32} (g0 : ¬ s1 = 0) (kt : ¬ (s0 - s0 / s1 * s1) = 0 → V mX10_blinksNow d b 49 [some (.ref 0), some (.int l1), some (.int l2), some (.int l3), some (.int (s0 - s0 / s1 * s1)), none] [] SM im Q) (kf : (s0 - s0 / s1 * s1) = 0 → V mX10_blinksNow d b 36 [some (.ref 0), some (.int l1), some (.int l2), some (.int l3), some (.int (s0 - s0 / s1 * s1)), none] [] SM im Q) : V mX10_blinksNow d b 28 [some (.ref 0), some (.int l1), some (.int l2), some (.int l3), none, none] [.int s1, .int s0] SM im Q := by
  refine V.irem dX10_blinksNow_28 g0 ?_
  refine V.istore dX10_blinksNow_29 rfl rfl ?_
  refine V.iload dX10_blinksNow_31 rfl ?_
  refine V.if_ne (tgt := 49) dX10_blinksNow_33 (by decide) (fun h => ?_) (fun h => ?_)
  · exact kt h
  · exact kf h
theorem bX10_blinksNow_36 {d : Nat} {b : Nat × Nat}  {im : XI} {Q : Option Value → XS → XI → Prop} {l1 : Int32} {l2 : Int32} {l3 : Int32} {l4 : Int32}  (kt : (l2 - l2 / (3 : Int32) * (3 : Int32)) = (l3 - l3 / (3 : Int32) * (3 : Int32)) → V mX10_blinksNow d b 49 [some (.ref 0), some (.int l1), some (.int l2), some (.int l3), some (.int l4), none] [] SM im Q) (kf : ¬ (l2 - l2 / (3 : Int32) * (3 : Int32)) = (l3 - l3 / (3 : Int32) * (3 : Int32)) → V mX10_blinksNow d b 45 [some (.ref 0), some (.int l1), some (.int l2), some (.int l3), some (.int l4), none] [] SM im Q) : V mX10_blinksNow d b 36 [some (.ref 0), some (.int l1), some (.int l2), some (.int l3), some (.int l4), none] [] SM im Q := by
  refine V.iload_n dX10_blinksNow_36 rfl rfl ?_
  refine V.iconst (v := 3) dX10_blinksNow_37 (by decide) ?_
  refine V.irem dX10_blinksNow_38 (by decide) ?_
  refine V.iload_n dX10_blinksNow_39 rfl rfl ?_
  refine V.iconst (v := 3) dX10_blinksNow_40 (by decide) ?_
  refine V.irem dX10_blinksNow_41 (by decide) ?_
  refine V.icmp_eq (tgt := 49) dX10_blinksNow_42 (by decide) (fun h => ?_) (fun h => ?_)
  · exact kt h
  · exact kf h
theorem bX10_blinksNow_45 {d : Nat} {b : Nat × Nat}  {im : XI} {Q : Option Value → XS → XI → Prop} {l1 : Int32} {l2 : Int32} {l3 : Int32} {l4 : Int32}  (k : V mX10_blinksNow d b 50 [some (.ref 0), some (.int l1), some (.int l2), some (.int l3), some (.int l4), none] [.int (1 : Int32)] SM im Q) : V mX10_blinksNow d b 45 [some (.ref 0), some (.int l1), some (.int l2), some (.int l3), some (.int l4), none] [] SM im Q := by
  refine V.iconst (v := 1) dX10_blinksNow_45 (by decide) ?_
  refine V.goto (tgt := 50) dX10_blinksNow_46 (by decide) ?_
  exact k
theorem bX10_blinksNow_49 {d : Nat} {b : Nat × Nat}  {im : XI} {Q : Option Value → XS → XI → Prop} {l1 : Int32} {l2 : Int32} {l3 : Int32} {l4 : Int32}  (k : V mX10_blinksNow d b 50 [some (.ref 0), some (.int l1), some (.int l2), some (.int l3), some (.int l4), none] [.int (0 : Int32)] SM im Q) : V mX10_blinksNow d b 49 [some (.ref 0), some (.int l1), some (.int l2), some (.int l3), some (.int l4), none] [] SM im Q := by
  refine V.iconst (v := 0) dX10_blinksNow_49 (by decide) ?_
  exact k
theorem bX10_blinksNow_50 {d : Nat} {b : Nat × Nat}  {im : XI} {Q : Option Value → XS → XI → Prop} {l1 : Int32} {l2 : Int32} {l3 : Int32} {l4 : Int32} {s0 : Int32} {P : Int32 → XI → Prop}  (hs : SpI mX10_its d [.ref 0, .int l1, .int (0 : Int32)] SM im P) (k : ∀ x2 im2, P x2 im2 → V mX10_blinksNow (d + 1) b 58 [some (.ref 0), some (.int l1), some (.int l2), some (.int l3), some (.int l4), some (.int s0)] [.int x2] SM im2 Q) : V mX10_blinksNow (d + 1) b 50 [some (.ref 0), some (.int l1), some (.int l2), some (.int l3), some (.int l4), none] [.int s0] SM im Q := by
  refine V.istore dX10_blinksNow_50 rfl rfl ?_
  refine V.aload_n dX10_blinksNow_52 rfl rfl ?_
  refine V.iload_n dX10_blinksNow_53 rfl rfl ?_
  refine V.iconst (v := 0) dX10_blinksNow_54 (by decide) ?_
  refine V.cVI rfl vX10_its lkX10_111 wX10_its (ci := 10) rfl (by rfl) (As := [.int l1, .int (0 : Int32)]) rfl rfl rfl dX10_blinksNow_55 hs (fun x2 im2 h2 => ?_)
  exact k x2 im2 h2
theorem bX10_blinksNow_58 {d : Nat} {b : Nat × Nat}  {im : XI} {Q : Option Value → XS → XI → Prop} {l1 : Int32} {l2 : Int32} {l3 : Int32} {l4 : Int32} {l5 : Int32} {s0 : Int32}  (k0 : s0 = 2 → V mX10_blinksNow d b 92 [some (.ref 0), some (.int l1), some (.int l2), some (.int l3), some (.int l4), some (.int l5)] [] SM im Q) (k1 : s0 = 3 → V mX10_blinksNow d b 95 [some (.ref 0), some (.int l1), some (.int l2), some (.int l3), some (.int l4), some (.int l5)] [] SM im Q) (k2 : s0 = 4 → V mX10_blinksNow d b 107 [some (.ref 0), some (.int l1), some (.int l2), some (.int l3), some (.int l4), some (.int l5)] [] SM im Q) (k3 : s0 = 5 → V mX10_blinksNow d b 126 [some (.ref 0), some (.int l1), some (.int l2), some (.int l3), some (.int l4), some (.int l5)] [] SM im Q) (k4 : s0 = 6 → V mX10_blinksNow d b 143 [some (.ref 0), some (.int l1), some (.int l2), some (.int l3), some (.int l4), some (.int l5)] [] SM im Q) (kd : ¬ s0 = 2 → ¬ s0 = 3 → ¬ s0 = 4 → ¬ s0 = 5 → ¬ s0 = 6 → V mX10_blinksNow d b 165 [some (.ref 0), some (.int l1), some (.int l2), some (.int l3), some (.int l4), some (.int l5)] [] SM im Q) : V mX10_blinksNow d b 58 [some (.ref 0), some (.int l1), some (.int l2), some (.int l3), some (.int l4), some (.int l5)] [.int s0] SM im Q := by
  by_cases c0 : s0 = 2
  · exact V.tableIn (tgt := 92) (off := 34) dX10_blinksNow_58 (by rw [c0]; decide) (by rw [c0]; decide) (by rw [c0] <;> rfl) (by decide) (k0 c0)
  · skip
    by_cases c1 : s0 = 3
    · exact V.tableIn (tgt := 95) (off := 37) dX10_blinksNow_58 (by rw [c1]; decide) (by rw [c1]; decide) (by rw [c1] <;> rfl) (by decide) (k1 c1)
    · skip
      by_cases c2 : s0 = 4
      · exact V.tableIn (tgt := 107) (off := 49) dX10_blinksNow_58 (by rw [c2]; decide) (by rw [c2]; decide) (by rw [c2] <;> rfl) (by decide) (k2 c2)
      · skip
        by_cases c3 : s0 = 5
        · exact V.tableIn (tgt := 126) (off := 68) dX10_blinksNow_58 (by rw [c3]; decide) (by rw [c3]; decide) (by rw [c3] <;> rfl) (by decide) (k3 c3)
        · skip
          by_cases c4 : s0 = 6
          · exact V.tableIn (tgt := 143) (off := 85) dX10_blinksNow_58 (by rw [c4]; decide) (by rw [c4]; decide) (by rw [c4] <;> rfl) (by decide) (k4 c4)
          · skip
            exact V.tableOut (tgt := 165) dX10_blinksNow_58 (by have qc0 := lv_neT c0 (a := 2) rfl; have qc1 := lv_neT c1 (a := 3) rfl; have qc2 := lv_neT c2 (a := 4) rfl; have qc3 := lv_neT c3 (a := 5) rfl; have qc4 := lv_neT c4 (a := 6) rfl; omega) (by decide) (kd c0 c1 c2 c3 c4)
theorem bX10_blinksNow_92 {d : Nat} {b : Nat × Nat}  {im : XI} {Q : Option Value → XS → XI → Prop} {l1 : Int32} {l2 : Int32} {l3 : Int32} {l4 : Int32} {l5 : Int32} (g0 : l5 = 0 ∨ l5 = 1) (hq : Q (some (.int l5)) SM im) : V mX10_blinksNow d b 92 [some (.ref 0), some (.int l1), some (.int l2), some (.int l3), some (.int l4), some (.int l5)] [] SM im Q := by
  refine V.iload dX10_blinksNow_92 rfl ?_
  exact V.zret rfl g0 dX10_blinksNow_94 hq
theorem bX10_blinksNow_95 {d : Nat} {b : Nat × Nat}  {im : XI} {Q : Option Value → XS → XI → Prop} {l1 : Int32} {l2 : Int32} {l3 : Int32} {l4 : Int32} {l5 : Int32}  (kt : (2 : Int32) ≤ l4 → V mX10_blinksNow d b 105 [some (.ref 0), some (.int l1), some (.int l2), some (.int l3), some (.int l4), some (.int l5)] [] SM im Q) (kf : ¬ (2 : Int32) ≤ l4 → V mX10_blinksNow d b 101 [some (.ref 0), some (.int l1), some (.int l2), some (.int l3), some (.int l4), some (.int l5)] [] SM im Q) : V mX10_blinksNow d b 95 [some (.ref 0), some (.int l1), some (.int l2), some (.int l3), some (.int l4), some (.int l5)] [] SM im Q := by
  refine V.iload dX10_blinksNow_95 rfl ?_
  refine V.iconst (v := 2) dX10_blinksNow_97 (by decide) ?_
  refine V.icmp_ge (tgt := 105) dX10_blinksNow_98 (by decide) (fun h => ?_) (fun h => ?_)
  · exact kt h
  · exact kf h
theorem bX10_blinksNow_101 {d : Nat} {b : Nat × Nat}  {im : XI} {Q : Option Value → XS → XI → Prop} {l1 : Int32} {l2 : Int32} {l3 : Int32} {l4 : Int32} {l5 : Int32}  (k : V mX10_blinksNow d b 106 [some (.ref 0), some (.int l1), some (.int l2), some (.int l3), some (.int l4), some (.int l5)] [.int (1 : Int32)] SM im Q) : V mX10_blinksNow d b 101 [some (.ref 0), some (.int l1), some (.int l2), some (.int l3), some (.int l4), some (.int l5)] [] SM im Q := by
  refine V.iconst (v := 1) dX10_blinksNow_101 (by decide) ?_
  refine V.goto (tgt := 106) dX10_blinksNow_102 (by decide) ?_
  exact k
theorem bX10_blinksNow_105 {d : Nat} {b : Nat × Nat}  {im : XI} {Q : Option Value → XS → XI → Prop} {l1 : Int32} {l2 : Int32} {l3 : Int32} {l4 : Int32} {l5 : Int32}  (k : V mX10_blinksNow d b 106 [some (.ref 0), some (.int l1), some (.int l2), some (.int l3), some (.int l4), some (.int l5)] [.int (0 : Int32)] SM im Q) : V mX10_blinksNow d b 105 [some (.ref 0), some (.int l1), some (.int l2), some (.int l3), some (.int l4), some (.int l5)] [] SM im Q := by
  refine V.iconst (v := 0) dX10_blinksNow_105 (by decide) ?_
  exact k
theorem bX10_blinksNow_106 {d : Nat} {b : Nat × Nat}  {im : XI} {Q : Option Value → XS → XI → Prop} {l1 : Int32} {l2 : Int32} {l3 : Int32} {l4 : Int32} {l5 : Int32} {s0 : Int32} (g0 : s0 = 0 ∨ s0 = 1) (hq : Q (some (.int s0)) SM im) : V mX10_blinksNow d b 106 [some (.ref 0), some (.int l1), some (.int l2), some (.int l3), some (.int l4), some (.int l5)] [.int s0] SM im Q := by
  exact V.zret rfl g0 dX10_blinksNow_106 hq
theorem bX10_blinksNow_107 {d : Nat} {b : Nat × Nat}  {im : XI} {Q : Option Value → XS → XI → Prop} {l1 : Int32} {l2 : Int32} {l3 : Int32} {l4 : Int32} {l5 : Int32}  (kt : l4 = 0 → V mX10_blinksNow d b 120 [some (.ref 0), some (.int l1), some (.int l2), some (.int l3), some (.int l4), some (.int l5)] [] SM im Q) (kf : ¬ l4 = 0 → V mX10_blinksNow d b 112 [some (.ref 0), some (.int l1), some (.int l2), some (.int l3), some (.int l4), some (.int l5)] [] SM im Q) : V mX10_blinksNow d b 107 [some (.ref 0), some (.int l1), some (.int l2), some (.int l3), some (.int l4), some (.int l5)] [] SM im Q := by
  refine V.iload dX10_blinksNow_107 rfl ?_
  refine V.if_eq (tgt := 120) dX10_blinksNow_109 (by decide) (fun h => ?_) (fun h => ?_)
  · exact kt h
  · exact kf h
theorem bX10_blinksNow_112 {d : Nat} {b : Nat × Nat}  {im : XI} {Q : Option Value → XS → XI → Prop} {l1 : Int32} {l2 : Int32} {l3 : Int32} {l4 : Int32} {l5 : Int32}  (kt : ¬ (l2 - l2 / (12 : Int32) * (12 : Int32)) = l3 → V mX10_blinksNow d b 124 [some (.ref 0), some (.int l1), some (.int l2), some (.int l3), some (.int l4), some (.int l5)] [] SM im Q) (kf : (l2 - l2 / (12 : Int32) * (12 : Int32)) = l3 → V mX10_blinksNow d b 120 [some (.ref 0), some (.int l1), some (.int l2), some (.int l3), some (.int l4), some (.int l5)] [] SM im Q) : V mX10_blinksNow d b 112 [some (.ref 0), some (.int l1), some (.int l2), some (.int l3), some (.int l4), some (.int l5)] [] SM im Q := by
  refine V.iload_n dX10_blinksNow_112 rfl rfl ?_
  refine V.bipush (v := 12) dX10_blinksNow_113 (by decide) ?_
  refine V.irem dX10_blinksNow_115 (by decide) ?_
  refine V.iload_n dX10_blinksNow_116 rfl rfl ?_
  refine V.icmp_ne (tgt := 124) dX10_blinksNow_117 (by decide) (fun h => ?_) (fun h => ?_)
  · exact kt h
  · exact kf h
theorem bX10_blinksNow_120 {d : Nat} {b : Nat × Nat}  {im : XI} {Q : Option Value → XS → XI → Prop} {l1 : Int32} {l2 : Int32} {l3 : Int32} {l4 : Int32} {l5 : Int32}  (k : V mX10_blinksNow d b 125 [some (.ref 0), some (.int l1), some (.int l2), some (.int l3), some (.int l4), some (.int l5)] [.int (1 : Int32)] SM im Q) : V mX10_blinksNow d b 120 [some (.ref 0), some (.int l1), some (.int l2), some (.int l3), some (.int l4), some (.int l5)] [] SM im Q := by
  refine V.iconst (v := 1) dX10_blinksNow_120 (by decide) ?_
  refine V.goto (tgt := 125) dX10_blinksNow_121 (by decide) ?_
  exact k
theorem bX10_blinksNow_124 {d : Nat} {b : Nat × Nat}  {im : XI} {Q : Option Value → XS → XI → Prop} {l1 : Int32} {l2 : Int32} {l3 : Int32} {l4 : Int32} {l5 : Int32}  (k : V mX10_blinksNow d b 125 [some (.ref 0), some (.int l1), some (.int l2), some (.int l3), some (.int l4), some (.int l5)] [.int (0 : Int32)] SM im Q) : V mX10_blinksNow d b 124 [some (.ref 0), some (.int l1), some (.int l2), some (.int l3), some (.int l4), some (.int l5)] [] SM im Q := by
  refine V.iconst (v := 0) dX10_blinksNow_124 (by decide) ?_
  exact k
theorem bX10_blinksNow_125 {d : Nat} {b : Nat × Nat}  {im : XI} {Q : Option Value → XS → XI → Prop} {l1 : Int32} {l2 : Int32} {l3 : Int32} {l4 : Int32} {l5 : Int32} {s0 : Int32} (g0 : s0 = 0 ∨ s0 = 1) (hq : Q (some (.int s0)) SM im) : V mX10_blinksNow d b 125 [some (.ref 0), some (.int l1), some (.int l2), some (.int l3), some (.int l4), some (.int l5)] [.int s0] SM im Q := by
  exact V.zret rfl g0 dX10_blinksNow_125 hq
theorem bX10_blinksNow_126 {d : Nat} {b : Nat × Nat}  {im : XI} {Q : Option Value → XS → XI → Prop} {l1 : Int32} {l2 : Int32} {l3 : Int32} {l4 : Int32} {l5 : Int32}  (kt : l5 = 0 → V mX10_blinksNow d b 141 [some (.ref 0), some (.int l1), some (.int l2), some (.int l3), some (.int l4), some (.int l5)] [] SM im Q) (kf : ¬ l5 = 0 → V mX10_blinksNow d b 131 [some (.ref 0), some (.int l1), some (.int l2), some (.int l3), some (.int l4), some (.int l5)] [] SM im Q) : V mX10_blinksNow d b 126 [some (.ref 0), some (.int l1), some (.int l2), some (.int l3), some (.int l4), some (.int l5)] [] SM im Q := by
  refine V.iload dX10_blinksNow_126 rfl ?_
  refine V.if_eq (tgt := 141) dX10_blinksNow_128 (by decide) (fun h => ?_) (fun h => ?_)
  · exact kt h
  · exact kf h
theorem bX10_blinksNow_131 {d : Nat} {b : Nat × Nat}  {im : XI} {Q : Option Value → XS → XI → Prop} {l1 : Int32} {l2 : Int32} {l3 : Int32} {l4 : Int32} {l5 : Int32}  (kt : l3 ≤ (6 : Int32) → V mX10_blinksNow d b 141 [some (.ref 0), some (.int l1), some (.int l2), some (.int l3), some (.int l4), some (.int l5)] [] SM im Q) (kf : ¬ l3 ≤ (6 : Int32) → V mX10_blinksNow d b 137 [some (.ref 0), some (.int l1), some (.int l2), some (.int l3), some (.int l4), some (.int l5)] [] SM im Q) : V mX10_blinksNow d b 131 [some (.ref 0), some (.int l1), some (.int l2), some (.int l3), some (.int l4), some (.int l5)] [] SM im Q := by
  refine V.iload_n dX10_blinksNow_131 rfl rfl ?_
  refine V.bipush (v := 6) dX10_blinksNow_132 (by decide) ?_
  refine V.icmp_le (tgt := 141) dX10_blinksNow_134 (by decide) (fun h => ?_) (fun h => ?_)
  · exact kt h
  · exact kf h
theorem bX10_blinksNow_137 {d : Nat} {b : Nat × Nat}  {im : XI} {Q : Option Value → XS → XI → Prop} {l1 : Int32} {l2 : Int32} {l3 : Int32} {l4 : Int32} {l5 : Int32}  (k : V mX10_blinksNow d b 142 [some (.ref 0), some (.int l1), some (.int l2), some (.int l3), some (.int l4), some (.int l5)] [.int (1 : Int32)] SM im Q) : V mX10_blinksNow d b 137 [some (.ref 0), some (.int l1), some (.int l2), some (.int l3), some (.int l4), some (.int l5)] [] SM im Q := by
  refine V.iconst (v := 1) dX10_blinksNow_137 (by decide) ?_
  refine V.goto (tgt := 142) dX10_blinksNow_138 (by decide) ?_
  exact k
theorem bX10_blinksNow_141 {d : Nat} {b : Nat × Nat}  {im : XI} {Q : Option Value → XS → XI → Prop} {l1 : Int32} {l2 : Int32} {l3 : Int32} {l4 : Int32} {l5 : Int32}  (k : V mX10_blinksNow d b 142 [some (.ref 0), some (.int l1), some (.int l2), some (.int l3), some (.int l4), some (.int l5)] [.int (0 : Int32)] SM im Q) : V mX10_blinksNow d b 141 [some (.ref 0), some (.int l1), some (.int l2), some (.int l3), some (.int l4), some (.int l5)] [] SM im Q := by
  refine V.iconst (v := 0) dX10_blinksNow_141 (by decide) ?_
  exact k
theorem bX10_blinksNow_142 {d : Nat} {b : Nat × Nat}  {im : XI} {Q : Option Value → XS → XI → Prop} {l1 : Int32} {l2 : Int32} {l3 : Int32} {l4 : Int32} {l5 : Int32} {s0 : Int32} (g0 : s0 = 0 ∨ s0 = 1) (hq : Q (some (.int s0)) SM im) : V mX10_blinksNow d b 142 [some (.ref 0), some (.int l1), some (.int l2), some (.int l3), some (.int l4), some (.int l5)] [.int s0] SM im Q := by
  exact V.zret rfl g0 dX10_blinksNow_142 hq
theorem bX10_blinksNow_143 {d : Nat} {b : Nat × Nat}  {im : XI} {Q : Option Value → XS → XI → Prop} {l1 : Int32} {l2 : Int32} {l3 : Int32} {l4 : Int32} {l5 : Int32}  (kt : l4 = 0 → V mX10_blinksNow d b 159 [some (.ref 0), some (.int l1), some (.int l2), some (.int l3), some (.int l4), some (.int l5)] [] SM im Q) (kf : ¬ l4 = 0 → V mX10_blinksNow d b 148 [some (.ref 0), some (.int l1), some (.int l2), some (.int l3), some (.int l4), some (.int l5)] [] SM im Q) : V mX10_blinksNow d b 143 [some (.ref 0), some (.int l1), some (.int l2), some (.int l3), some (.int l4), some (.int l5)] [] SM im Q := by
  refine V.iload dX10_blinksNow_143 rfl ?_
  refine V.if_eq (tgt := 159) dX10_blinksNow_145 (by decide) (fun h => ?_) (fun h => ?_)
  · exact kt h
  · exact kf h
theorem bX10_blinksNow_148 {d : Nat} {b : Nat × Nat}  {im : XI} {Q : Option Value → XS → XI → Prop} {l1 : Int32} {l2 : Int32} {l3 : Int32} {l4 : Int32} {l5 : Int32}  (kt : ¬ (l2 - l2 / (7 : Int32) * (7 : Int32)) = (l3 - l3 / (7 : Int32) * (7 : Int32)) → V mX10_blinksNow d b 163 [some (.ref 0), some (.int l1), some (.int l2), some (.int l3), some (.int l4), some (.int l5)] [] SM im Q) (kf : (l2 - l2 / (7 : Int32) * (7 : Int32)) = (l3 - l3 / (7 : Int32) * (7 : Int32)) → V mX10_blinksNow d b 159 [some (.ref 0), some (.int l1), some (.int l2), some (.int l3), some (.int l4), some (.int l5)] [] SM im Q) : V mX10_blinksNow d b 148 [some (.ref 0), some (.int l1), some (.int l2), some (.int l3), some (.int l4), some (.int l5)] [] SM im Q := by
  refine V.iload_n dX10_blinksNow_148 rfl rfl ?_
  refine V.bipush (v := 7) dX10_blinksNow_149 (by decide) ?_
  refine V.irem dX10_blinksNow_151 (by decide) ?_
  refine V.iload_n dX10_blinksNow_152 rfl rfl ?_
  refine V.bipush (v := 7) dX10_blinksNow_153 (by decide) ?_
  refine V.irem dX10_blinksNow_155 (by decide) ?_
  refine V.icmp_ne (tgt := 163) dX10_blinksNow_156 (by decide) (fun h => ?_) (fun h => ?_)
  · exact kt h
  · exact kf h
theorem bX10_blinksNow_159 {d : Nat} {b : Nat × Nat}  {im : XI} {Q : Option Value → XS → XI → Prop} {l1 : Int32} {l2 : Int32} {l3 : Int32} {l4 : Int32} {l5 : Int32}  (k : V mX10_blinksNow d b 164 [some (.ref 0), some (.int l1), some (.int l2), some (.int l3), some (.int l4), some (.int l5)] [.int (1 : Int32)] SM im Q) : V mX10_blinksNow d b 159 [some (.ref 0), some (.int l1), some (.int l2), some (.int l3), some (.int l4), some (.int l5)] [] SM im Q := by
  refine V.iconst (v := 1) dX10_blinksNow_159 (by decide) ?_
  refine V.goto (tgt := 164) dX10_blinksNow_160 (by decide) ?_
  exact k
theorem bX10_blinksNow_163 {d : Nat} {b : Nat × Nat}  {im : XI} {Q : Option Value → XS → XI → Prop} {l1 : Int32} {l2 : Int32} {l3 : Int32} {l4 : Int32} {l5 : Int32}  (k : V mX10_blinksNow d b 164 [some (.ref 0), some (.int l1), some (.int l2), some (.int l3), some (.int l4), some (.int l5)] [.int (0 : Int32)] SM im Q) : V mX10_blinksNow d b 163 [some (.ref 0), some (.int l1), some (.int l2), some (.int l3), some (.int l4), some (.int l5)] [] SM im Q := by
  refine V.iconst (v := 0) dX10_blinksNow_163 (by decide) ?_
  exact k
theorem bX10_blinksNow_164 {d : Nat} {b : Nat × Nat}  {im : XI} {Q : Option Value → XS → XI → Prop} {l1 : Int32} {l2 : Int32} {l3 : Int32} {l4 : Int32} {l5 : Int32} {s0 : Int32} (g0 : s0 = 0 ∨ s0 = 1) (hq : Q (some (.int s0)) SM im) : V mX10_blinksNow d b 164 [some (.ref 0), some (.int l1), some (.int l2), some (.int l3), some (.int l4), some (.int l5)] [.int s0] SM im Q := by
  exact V.zret rfl g0 dX10_blinksNow_164 hq
theorem bX10_blinksNow_165 {d : Nat} {b : Nat × Nat}  {im : XI} {Q : Option Value → XS → XI → Prop} {l1 : Int32} {l2 : Int32} {l3 : Int32} {l4 : Int32} {l5 : Int32}  (kt : ¬ l4 = 0 → V mX10_blinksNow d b 174 [some (.ref 0), some (.int l1), some (.int l2), some (.int l3), some (.int l4), some (.int l5)] [] SM im Q) (kf : l4 = 0 → V mX10_blinksNow d b 170 [some (.ref 0), some (.int l1), some (.int l2), some (.int l3), some (.int l4), some (.int l5)] [] SM im Q) : V mX10_blinksNow d b 165 [some (.ref 0), some (.int l1), some (.int l2), some (.int l3), some (.int l4), some (.int l5)] [] SM im Q := by
  refine V.iload dX10_blinksNow_165 rfl ?_
  refine V.if_ne (tgt := 174) dX10_blinksNow_167 (by decide) (fun h => ?_) (fun h => ?_)
  · exact kt h
  · exact kf h
theorem bX10_blinksNow_170 {d : Nat} {b : Nat × Nat}  {im : XI} {Q : Option Value → XS → XI → Prop} {l1 : Int32} {l2 : Int32} {l3 : Int32} {l4 : Int32} {l5 : Int32}  (k : V mX10_blinksNow d b 175 [some (.ref 0), some (.int l1), some (.int l2), some (.int l3), some (.int l4), some (.int l5)] [.int (1 : Int32)] SM im Q) : V mX10_blinksNow d b 170 [some (.ref 0), some (.int l1), some (.int l2), some (.int l3), some (.int l4), some (.int l5)] [] SM im Q := by
  refine V.iconst (v := 1) dX10_blinksNow_170 (by decide) ?_
  refine V.goto (tgt := 175) dX10_blinksNow_171 (by decide) ?_
  exact k
theorem bX10_blinksNow_174 {d : Nat} {b : Nat × Nat}  {im : XI} {Q : Option Value → XS → XI → Prop} {l1 : Int32} {l2 : Int32} {l3 : Int32} {l4 : Int32} {l5 : Int32}  (k : V mX10_blinksNow d b 175 [some (.ref 0), some (.int l1), some (.int l2), some (.int l3), some (.int l4), some (.int l5)] [.int (0 : Int32)] SM im Q) : V mX10_blinksNow d b 174 [some (.ref 0), some (.int l1), some (.int l2), some (.int l3), some (.int l4), some (.int l5)] [] SM im Q := by
  refine V.iconst (v := 0) dX10_blinksNow_174 (by decide) ?_
  exact k
theorem bX10_blinksNow_175 {d : Nat} {b : Nat × Nat}  {im : XI} {Q : Option Value → XS → XI → Prop} {l1 : Int32} {l2 : Int32} {l3 : Int32} {l4 : Int32} {l5 : Int32} {s0 : Int32} (g0 : s0 = 0 ∨ s0 = 1) (hq : Q (some (.int s0)) SM im) : V mX10_blinksNow d b 175 [some (.ref 0), some (.int l1), some (.int l2), some (.int l3), some (.int l4), some (.int l5)] [.int s0] SM im Q := by
  exact V.zret rfl g0 dX10_blinksNow_175 hq
theorem bX10_triesOf_0 {d : Nat} {b : Nat × Nat}  {im : XI} {Q : Option Value → XS → XI → Prop} {l1 : Int32} {P : Int32 → XI → Prop}  (hs : SpI mX10_its d [.ref 0, .int l1, .int (1 : Int32)] SM im P) (k : ∀ x2 im2, P x2 im2 → V mX10_triesOf (d + 1) b 7 [some (.ref 0), some (.int l1), none] [.int x2, .int (2 : Int32)] SM im2 Q) : V mX10_triesOf (d + 1) b 0 [some (.ref 0), some (.int l1), none] [] SM im Q := by
  refine V.iconst (v := 2) dX10_triesOf_0 (by decide) ?_
  refine V.aload_n dX10_triesOf_1 rfl rfl ?_
  refine V.iload_n dX10_triesOf_2 rfl rfl ?_
  refine V.iconst (v := 1) dX10_triesOf_3 (by decide) ?_
  refine V.cVI rfl vX10_its lkX10_111 wX10_its (ci := 10) rfl (by rfl) (As := [.int l1, .int (1 : Int32)]) rfl rfl rfl dX10_triesOf_4 hs (fun x2 im2 h2 => ?_)
  exact k x2 im2 h2
theorem bX10_triesOf_7 {d : Nat} {b : Nat × Nat}  {im : XI} {Q : Option Value → XS → XI → Prop} {l1 : Int32} {s0 : Int32} {s1 : Int32} {P : Int32 → XI → Prop}  (hs : SpI mX10_its d [.ref 0, .int l1, .int (0 : Int32)] SM im P) (k : ∀ x2 im2, P x2 im2 → V mX10_triesOf (d + 1) b 17 [some (.ref 0), some (.int l1), some (.int (s0 + (s1 / (5 : Int32))))] [.int x2] SM im2 Q) : V mX10_triesOf (d + 1) b 7 [some (.ref 0), some (.int l1), none] [.int s1, .int s0] SM im Q := by
  refine V.iconst (v := 5) dX10_triesOf_7 (by decide) ?_
  refine V.idiv dX10_triesOf_8 (by decide) ?_
  refine V.iadd dX10_triesOf_9 ?_
  refine V.istore_n dX10_triesOf_10 rfl rfl rfl ?_
  refine V.aload_n dX10_triesOf_11 rfl rfl ?_
  refine V.iload_n dX10_triesOf_12 rfl rfl ?_
  refine V.iconst (v := 0) dX10_triesOf_13 (by decide) ?_
  refine V.cVI rfl vX10_its lkX10_111 wX10_its (ci := 10) rfl (by rfl) (As := [.int l1, .int (0 : Int32)]) rfl rfl rfl dX10_triesOf_14 hs (fun x2 im2 h2 => ?_)
  exact k x2 im2 h2
theorem bX10_triesOf_17 {d : Nat} {b : Nat × Nat}  {im : XI} {Q : Option Value → XS → XI → Prop} {l1 : Int32} {l2 : Int32} {s0 : Int32}  (k0 : s0 = 1 → V mX10_triesOf d b 56 [some (.ref 0), some (.int l1), some (.int l2)] [] SM im Q) (k1 : s0 = 3 → V mX10_triesOf d b 58 [some (.ref 0), some (.int l1), some (.int l2)] [] SM im Q) (k2 : s0 = 4 → V mX10_triesOf d b 67 [some (.ref 0), some (.int l1), some (.int l2)] [] SM im Q) (k3 : s0 = 5 → V mX10_triesOf d b 71 [some (.ref 0), some (.int l1), some (.int l2)] [] SM im Q) (k4 : s0 = 6 → V mX10_triesOf d b 73 [some (.ref 0), some (.int l1), some (.int l2)] [] SM im Q) (kd : ¬ s0 = 1 → ¬ s0 = 3 → ¬ s0 = 4 → ¬ s0 = 5 → ¬ s0 = 6 → V mX10_triesOf d b 75 [some (.ref 0), some (.int l1), some (.int l2)] [] SM im Q) : V mX10_triesOf d b 17 [some (.ref 0), some (.int l1), some (.int l2)] [.int s0] SM im Q := by
  by_cases c0 : s0 = 1
  · exact V.tableIn (tgt := 56) (off := 39) dX10_triesOf_17 (by rw [c0]; decide) (by rw [c0]; decide) (by rw [c0] <;> rfl) (by decide) (k0 c0)
  · skip
    by_cases c1 : s0 = 2
    · exact V.tableIn (tgt := 75) (off := 58) dX10_triesOf_17 (by rw [c1]; decide) (by rw [c1]; decide) (by rw [c1] <;> rfl) (by decide) (kd c0 (by rw [c1]; decide) (by rw [c1]; decide) (by rw [c1]; decide) (by rw [c1]; decide))
    · skip
      by_cases c2 : s0 = 3
      · exact V.tableIn (tgt := 58) (off := 41) dX10_triesOf_17 (by rw [c2]; decide) (by rw [c2]; decide) (by rw [c2] <;> rfl) (by decide) (k1 c2)
      · skip
        by_cases c3 : s0 = 4
        · exact V.tableIn (tgt := 67) (off := 50) dX10_triesOf_17 (by rw [c3]; decide) (by rw [c3]; decide) (by rw [c3] <;> rfl) (by decide) (k2 c3)
        · skip
          by_cases c4 : s0 = 5
          · exact V.tableIn (tgt := 71) (off := 54) dX10_triesOf_17 (by rw [c4]; decide) (by rw [c4]; decide) (by rw [c4] <;> rfl) (by decide) (k3 c4)
          · skip
            by_cases c5 : s0 = 6
            · exact V.tableIn (tgt := 73) (off := 56) dX10_triesOf_17 (by rw [c5]; decide) (by rw [c5]; decide) (by rw [c5] <;> rfl) (by decide) (k4 c5)
            · skip
              exact V.tableOut (tgt := 75) dX10_triesOf_17 (by have qc0 := lv_neT c0 (a := 1) rfl; have qc1 := lv_neT c1 (a := 2) rfl; have qc2 := lv_neT c2 (a := 3) rfl; have qc3 := lv_neT c3 (a := 4) rfl; have qc4 := lv_neT c4 (a := 5) rfl; have qc5 := lv_neT c5 (a := 6) rfl; omega) (by decide) (kd c0 c2 c3 c4 c5)
theorem bX10_triesOf_56 {d : Nat} {b : Nat × Nat}  {im : XI} {Q : Option Value → XS → XI → Prop} {l1 : Int32} {l2 : Int32}  (hq : Q (some (.int l2)) SM im) : V mX10_triesOf d b 56 [some (.ref 0), some (.int l1), some (.int l2)] [] SM im Q := by
  refine V.iload_n dX10_triesOf_56 rfl rfl ?_
  exact V.iret rfl dX10_triesOf_57 hq
theorem bX10_triesOf_58 {d : Nat} {b : Nat × Nat}  {im : XI} {Q : Option Value → XS → XI → Prop} {l1 : Int32} {l2 : Int32}  (hq : Q (some (.int ((1 : Int32) + (im 1 5)))) SM im) : V mX10_triesOf d b 58 [some (.ref 0), some (.int l1), some (.int l2)] [] SM im Q := by
  refine V.iconst (v := 1) dX10_triesOf_58 (by decide) ?_
  refine V.aload_n dX10_triesOf_59 rfl rfl ?_
  refine V.getR fX10_7 rfl (by rfl) (by rfl) dX10_triesOf_60 ?_
  refine V.iconst (v := 5) dX10_triesOf_63 (by decide) ?_
  refine V.iald (i := 5) ⟨by rfl, by rfl⟩ (by rfl) (by decide) dX10_triesOf_64 ?_
  refine V.iadd dX10_triesOf_65 ?_
  exact V.iret rfl dX10_triesOf_66 hq
theorem bX10_triesOf_67 {d : Nat} {b : Nat × Nat}  {im : XI} {Q : Option Value → XS → XI → Prop} {l1 : Int32} {l2 : Int32}  (hq : Q (some (.int ((2 : Int32) * l2))) SM im) : V mX10_triesOf d b 67 [some (.ref 0), some (.int l1), some (.int l2)] [] SM im Q := by
  refine V.iconst (v := 2) dX10_triesOf_67 (by decide) ?_
  refine V.iload_n dX10_triesOf_68 rfl rfl ?_
  refine V.imul dX10_triesOf_69 ?_
  exact V.iret rfl dX10_triesOf_70 hq
theorem bX10_triesOf_71 {d : Nat} {b : Nat × Nat}  {im : XI} {Q : Option Value → XS → XI → Prop} {l1 : Int32} {l2 : Int32}  (hq : Q (some (.int (4 : Int32))) SM im) : V mX10_triesOf d b 71 [some (.ref 0), some (.int l1), some (.int l2)] [] SM im Q := by
  refine V.iconst (v := 4) dX10_triesOf_71 (by decide) ?_
  exact V.iret rfl dX10_triesOf_72 hq
theorem bX10_triesOf_73 {d : Nat} {b : Nat × Nat}  {im : XI} {Q : Option Value → XS → XI → Prop} {l1 : Int32} {l2 : Int32}  (hq : Q (some (.int (0 : Int32))) SM im) : V mX10_triesOf d b 73 [some (.ref 0), some (.int l1), some (.int l2)] [] SM im Q := by
  refine V.iconst (v := 0) dX10_triesOf_73 (by decide) ?_
  exact V.iret rfl dX10_triesOf_74 hq
theorem bX10_triesOf_75 {d : Nat} {b : Nat × Nat}  {im : XI} {Q : Option Value → XS → XI → Prop} {l1 : Int32} {l2 : Int32}  (hq : Q (some (.int (1 : Int32))) SM im) : V mX10_triesOf d b 75 [some (.ref 0), some (.int l1), some (.int l2)] [] SM im Q := by
  refine V.iconst (v := 1) dX10_triesOf_75 (by decide) ?_
  exact V.iret rfl dX10_triesOf_76 hq
theorem bX10_shutTold_0 {d : Nat} {b : Nat × Nat}  {im : XI} {Q : Option Value → XS → XI → Prop} {l1 : Int32} {l2 : Int32} {l3 : Int32} {P : Int32 → XI → Prop}  (hs : SpI mX10_hasText d [.ref 0, .int (0 : Int32)] SM (xup (xup (xup im 6 114 l1) 6 115 l2) 6 116 l3) P) (k : ∀ x2 im2, P x2 im2 → V mX10_shutTold (d + 1) b 29 [some (.ref 0), some (.int l1), some (.int l2), some (.int l3)] [.int x2] SM im2 Q) : V mX10_shutTold (d + 1) b 0 [some (.ref 0), some (.int l1), some (.int l2), some (.int l3)] [] SM im Q := by
  refine V.aload_n dX10_shutTold_0 rfl rfl ?_
  refine V.getR fX10_25 rfl (by rfl) (by rfl) dX10_shutTold_1 ?_
  refine V.bipush (v := 114) dX10_shutTold_4 (by decide) ?_
  refine V.iload_n dX10_shutTold_6 rfl rfl ?_
  refine V.iast (i := 114) ⟨by rfl, by rfl⟩ (by rfl) (by decide) dX10_shutTold_7 ?_
  refine V.aload_n dX10_shutTold_8 rfl rfl ?_
  refine V.getR fX10_25 rfl (by rfl) (by rfl) dX10_shutTold_9 ?_
  refine V.bipush (v := 115) dX10_shutTold_12 (by decide) ?_
  refine V.iload_n dX10_shutTold_14 rfl rfl ?_
  refine V.iast (i := 115) ⟨by rfl, by rfl⟩ (by rfl) (by decide) dX10_shutTold_15 ?_
  refine V.aload_n dX10_shutTold_16 rfl rfl ?_
  refine V.getR fX10_25 rfl (by rfl) (by rfl) dX10_shutTold_17 ?_
  refine V.bipush (v := 116) dX10_shutTold_20 (by decide) ?_
  refine V.iload_n dX10_shutTold_22 rfl rfl ?_
  refine V.iast (i := 116) ⟨by rfl, by rfl⟩ (by rfl) (by decide) dX10_shutTold_23 ?_
  refine V.aload_n dX10_shutTold_24 rfl rfl ?_
  refine V.iconst (v := 0) dX10_shutTold_25 (by decide) ?_
  refine V.cVI rfl vX10_hasText lkX10_104 wX10_hasText (ci := 10) rfl (by rfl) (As := [.int (0 : Int32)]) rfl rfl rfl dX10_shutTold_26 hs (fun x2 im2 h2 => ?_)
  exact k x2 im2 h2
theorem bX10_shutTold_29 {d : Nat} {b : Nat × Nat}  {im : XI} {Q : Option Value → XS → XI → Prop} {l1 : Int32} {l2 : Int32} {l3 : Int32} {s0 : Int32}  (kt : s0 = 0 → V mX10_shutTold d b 40 [some (.ref 0), some (.int l1), some (.int l2), some (.int l3)] [] SM im Q) (kf : ¬ s0 = 0 → V mX10_shutTold d b 32 [some (.ref 0), some (.int l1), some (.int l2), some (.int l3)] [] SM im Q) : V mX10_shutTold d b 29 [some (.ref 0), some (.int l1), some (.int l2), some (.int l3)] [.int s0] SM im Q := by
  refine V.if_eq (tgt := 40) dX10_shutTold_29 (by decide) (fun h => ?_) (fun h => ?_)
  · exact kt h
  · exact kf h
theorem bX10_shutTold_32 {d : Nat} {b : Nat × Nat}  {im : XI} {Q : Option Value → XS → XI → Prop} {l1 : Int32} {l2 : Int32} {l3 : Int32} {P : Int32 → XI → Prop}  (hs : SpI mX10_worked d [.ref 0, .int (0 : Int32)] SM im P) (k : ∀ x2 im2, P x2 im2 → V mX10_shutTold (d + 1) b 37 [some (.ref 0), some (.int l1), some (.int l2), some (.int l3)] [.int x2] SM im2 Q) : V mX10_shutTold (d + 1) b 32 [some (.ref 0), some (.int l1), some (.int l2), some (.int l3)] [] SM im Q := by
  refine V.aload_n dX10_shutTold_32 rfl rfl ?_
  refine V.iconst (v := 0) dX10_shutTold_33 (by decide) ?_
  refine V.cVI rfl vX10_worked lkX10_115 wX10_worked (ci := 10) rfl (by rfl) (As := [.int (0 : Int32)]) rfl rfl rfl dX10_shutTold_34 hs (fun x2 im2 h2 => ?_)
  exact k x2 im2 h2
theorem bX10_shutTold_37 {d : Nat} {b : Nat × Nat}  {im : XI} {Q : Option Value → XS → XI → Prop} {l1 : Int32} {l2 : Int32} {l3 : Int32} {s0 : Int32}  (k : V mX10_shutTold d b 41 [some (.ref 0), some (.int l1), some (.int l2), some (.int l3)] [.int s0] SM im Q) : V mX10_shutTold d b 37 [some (.ref 0), some (.int l1), some (.int l2), some (.int l3)] [.int s0] SM im Q := by
  refine V.goto (tgt := 41) dX10_shutTold_37 (by decide) ?_
  exact k
theorem bX10_shutTold_40 {d : Nat} {b : Nat × Nat}  {im : XI} {Q : Option Value → XS → XI → Prop} {l1 : Int32} {l2 : Int32} {l3 : Int32}  (k : V mX10_shutTold d b 41 [some (.ref 0), some (.int l1), some (.int l2), some (.int l3)] [.int l2] SM im Q) : V mX10_shutTold d b 40 [some (.ref 0), some (.int l1), some (.int l2), some (.int l3)] [] SM im Q := by
  refine V.iload_n dX10_shutTold_40 rfl rfl ?_
  exact k
theorem bX10_shutTold_41 {d : Nat} {b : Nat × Nat}  {im : XI} {Q : Option Value → XS → XI → Prop} {l1 : Int32} {l2 : Int32} {l3 : Int32} {s0 : Int32} {P : Int32 → XI → Prop}  (hs : SpI mX10_held d [.int s0, .int (0 : Int32), .int (1 : Int32)] SM im P) (k : ∀ x2 im2, P x2 im2 → V mX10_shutTold (d + 1) b 46 [some (.ref 0), some (.int l1), some (.int l2), some (.int l3)] [.int x2] SM im2 Q) : V mX10_shutTold (d + 1) b 41 [some (.ref 0), some (.int l1), some (.int l2), some (.int l3)] [.int s0] SM im Q := by
  refine V.iconst (v := 0) dX10_shutTold_41 (by decide) ?_
  refine V.iconst (v := 1) dX10_shutTold_42 (by decide) ?_
  refine V.cSI rfl vX10_held lkX10_118 sX10_held (As := [.int s0, .int (0 : Int32), .int (1 : Int32)]) rfl rfl rfl dX10_shutTold_43 hs (fun x2 im2 h2 => ?_)
  exact k x2 im2 h2
theorem bX10_shutTold_46 {d : Nat} {b : Nat × Nat}  {im : XI} {Q : Option Value → XS → XI → Prop} {l1 : Int32} {l2 : Int32} {l3 : Int32} {s0 : Int32}  (hq : Q (some (.int s0)) SM im) : V mX10_shutTold d b 46 [some (.ref 0), some (.int l1), some (.int l2), some (.int l3)] [.int s0] SM im Q := by
  exact V.iret rfl dX10_shutTold_46 hq
theorem bX10_onTold_0 {d : Nat} {b : Nat × Nat}  {im : XI} {Q : Option Value → XS → XI → Prop} {l1 : Int32} {l2 : Int32} {l3 : Int32} {P : Int32 → XI → Prop}  (hs : SpI mX10_hasText d [.ref 0, .int (1 : Int32)] SM (xup (xup (xup im 6 112 l1) 6 111 l2) 6 108 l3) P) (k : ∀ x2 im2, P x2 im2 → V mX10_onTold (d + 1) b 29 [some (.ref 0), some (.int l1), some (.int l2), some (.int l3)] [.int x2] SM im2 Q) : V mX10_onTold (d + 1) b 0 [some (.ref 0), some (.int l1), some (.int l2), some (.int l3)] [] SM im Q := by
  refine V.aload_n dX10_onTold_0 rfl rfl ?_
  refine V.getR fX10_25 rfl (by rfl) (by rfl) dX10_onTold_1 ?_
  refine V.bipush (v := 112) dX10_onTold_4 (by decide) ?_
  refine V.iload_n dX10_onTold_6 rfl rfl ?_
  refine V.iast (i := 112) ⟨by rfl, by rfl⟩ (by rfl) (by decide) dX10_onTold_7 ?_
  refine V.aload_n dX10_onTold_8 rfl rfl ?_
  refine V.getR fX10_25 rfl (by rfl) (by rfl) dX10_onTold_9 ?_
  refine V.bipush (v := 111) dX10_onTold_12 (by decide) ?_
  refine V.iload_n dX10_onTold_14 rfl rfl ?_
  refine V.iast (i := 111) ⟨by rfl, by rfl⟩ (by rfl) (by decide) dX10_onTold_15 ?_
  refine V.aload_n dX10_onTold_16 rfl rfl ?_
  refine V.getR fX10_25 rfl (by rfl) (by rfl) dX10_onTold_17 ?_
  refine V.bipush (v := 108) dX10_onTold_20 (by decide) ?_
  refine V.iload_n dX10_onTold_22 rfl rfl ?_
  refine V.iast (i := 108) ⟨by rfl, by rfl⟩ (by rfl) (by decide) dX10_onTold_23 ?_
  refine V.aload_n dX10_onTold_24 rfl rfl ?_
  refine V.iconst (v := 1) dX10_onTold_25 (by decide) ?_
  refine V.cVI rfl vX10_hasText lkX10_104 wX10_hasText (ci := 10) rfl (by rfl) (As := [.int (1 : Int32)]) rfl rfl rfl dX10_onTold_26 hs (fun x2 im2 h2 => ?_)
  exact k x2 im2 h2
theorem bX10_onTold_29 {d : Nat} {b : Nat × Nat}  {im : XI} {Q : Option Value → XS → XI → Prop} {l1 : Int32} {l2 : Int32} {l3 : Int32} {s0 : Int32}  (kt : s0 = 0 → V mX10_onTold d b 40 [some (.ref 0), some (.int l1), some (.int l2), some (.int l3)] [] SM im Q) (kf : ¬ s0 = 0 → V mX10_onTold d b 32 [some (.ref 0), some (.int l1), some (.int l2), some (.int l3)] [] SM im Q) : V mX10_onTold d b 29 [some (.ref 0), some (.int l1), some (.int l2), some (.int l3)] [.int s0] SM im Q := by
  refine V.if_eq (tgt := 40) dX10_onTold_29 (by decide) (fun h => ?_) (fun h => ?_)
  · exact kt h
  · exact kf h
theorem bX10_onTold_32 {d : Nat} {b : Nat × Nat}  {im : XI} {Q : Option Value → XS → XI → Prop} {l1 : Int32} {l2 : Int32} {l3 : Int32} {P : Int32 → XI → Prop}  (hs : SpI mX10_worked d [.ref 0, .int (1 : Int32)] SM im P) (k : ∀ x2 im2, P x2 im2 → V mX10_onTold (d + 1) b 37 [some (.ref 0), some (.int l1), some (.int l2), some (.int l3)] [.int x2] SM im2 Q) : V mX10_onTold (d + 1) b 32 [some (.ref 0), some (.int l1), some (.int l2), some (.int l3)] [] SM im Q := by
  refine V.aload_n dX10_onTold_32 rfl rfl ?_
  refine V.iconst (v := 1) dX10_onTold_33 (by decide) ?_
  refine V.cVI rfl vX10_worked lkX10_115 wX10_worked (ci := 10) rfl (by rfl) (As := [.int (1 : Int32)]) rfl rfl rfl dX10_onTold_34 hs (fun x2 im2 h2 => ?_)
  exact k x2 im2 h2
theorem bX10_onTold_37 {d : Nat} {b : Nat × Nat}  {im : XI} {Q : Option Value → XS → XI → Prop} {l1 : Int32} {l2 : Int32} {l3 : Int32} {s0 : Int32}  (k : V mX10_onTold d b 41 [some (.ref 0), some (.int l1), some (.int l2), some (.int l3)] [.int s0] SM im Q) : V mX10_onTold d b 37 [some (.ref 0), some (.int l1), some (.int l2), some (.int l3)] [.int s0] SM im Q := by
  refine V.goto (tgt := 41) dX10_onTold_37 (by decide) ?_
  exact k
theorem bX10_onTold_40 {d : Nat} {b : Nat × Nat}  {im : XI} {Q : Option Value → XS → XI → Prop} {l1 : Int32} {l2 : Int32} {l3 : Int32}  (k : V mX10_onTold d b 41 [some (.ref 0), some (.int l1), some (.int l2), some (.int l3)] [.int l1] SM im Q) : V mX10_onTold d b 40 [some (.ref 0), some (.int l1), some (.int l2), some (.int l3)] [] SM im Q := by
  refine V.iload_n dX10_onTold_40 rfl rfl ?_
  exact k
theorem bX10_onTold_41 {d : Nat} {b : Nat × Nat}  {im : XI} {Q : Option Value → XS → XI → Prop} {l1 : Int32} {l2 : Int32} {l3 : Int32} {s0 : Int32} {P : Int32 → XI → Prop}  (hs : SpI mX10_held d [.int s0, .int (0 : Int32), .int (9 : Int32)] SM im P) (k : ∀ x2 im2, P x2 im2 → V mX10_onTold (d + 1) b 47 [some (.ref 0), some (.int l1), some (.int l2), some (.int l3)] [.int x2] SM im2 Q) : V mX10_onTold (d + 1) b 41 [some (.ref 0), some (.int l1), some (.int l2), some (.int l3)] [.int s0] SM im Q := by
  refine V.iconst (v := 0) dX10_onTold_41 (by decide) ?_
  refine V.bipush (v := 9) dX10_onTold_42 (by decide) ?_
  refine V.cSI rfl vX10_held lkX10_118 sX10_held (As := [.int s0, .int (0 : Int32), .int (9 : Int32)]) rfl rfl rfl dX10_onTold_44 hs (fun x2 im2 h2 => ?_)
  exact k x2 im2 h2
theorem bX10_onTold_47 {d : Nat} {b : Nat × Nat}  {im : XI} {Q : Option Value → XS → XI → Prop} {l1 : Int32} {l2 : Int32} {l3 : Int32} {s0 : Int32}  (hq : Q (some (.int s0)) SM im) : V mX10_onTold d b 47 [some (.ref 0), some (.int l1), some (.int l2), some (.int l3)] [.int s0] SM im Q := by
  exact V.iret rfl dX10_onTold_47 hq
theorem bX10_shutOf_0 {d : Nat} {b : Nat × Nat}  {im : XI} {Q : Option Value → XS → XI → Prop} {l1 : Int32} {P : Int32 → XI → Prop}  (hs : SpI mX10_its d [.ref 0, .int l1, .int (3 : Int32)] SM im P) (k : ∀ x2 im2, P x2 im2 → V mX10_shutOf (d + 1) b 12 [some (.ref 0), some (.int l1), none] [.int x2, .int (im 1 0)] SM im2 Q) : V mX10_shutOf (d + 1) b 0 [some (.ref 0), some (.int l1), none] [] SM im Q := by
  refine V.aload_n dX10_shutOf_0 rfl rfl ?_
  refine V.getR fX10_7 rfl (by rfl) (by rfl) dX10_shutOf_1 ?_
  refine V.iconst (v := 0) dX10_shutOf_4 (by decide) ?_
  refine V.iald (i := 0) ⟨by rfl, by rfl⟩ (by rfl) (by decide) dX10_shutOf_5 ?_
  refine V.aload_n dX10_shutOf_6 rfl rfl ?_
  refine V.iload_n dX10_shutOf_7 rfl rfl ?_
  refine V.iconst (v := 3) dX10_shutOf_8 (by decide) ?_
  refine V.cVI rfl vX10_its lkX10_111 wX10_its (ci := 10) rfl (by rfl) (As := [.int l1, .int (3 : Int32)]) rfl rfl rfl dX10_shutOf_9 hs (fun x2 im2 h2 => ?_)
  exact k x2 im2 h2
theorem bX10_shutOf_12 {d : Nat} {b : Nat × Nat}  {im : XI} {Q : Option Value → XS → XI → Prop} {l1 : Int32} {s0 : Int32} {s1 : Int32} {P : Int32 → XI → Prop}  (hs : SpI mX10_its d [.ref 0, .int l1, .int (2 : Int32)] SM im P) (k : ∀ x2 im2, P x2 im2 → V mX10_shutOf (d + 1) b 19 [some (.ref 0), some (.int l1), none] [.int x2, .int (s0 + s1)] SM im2 Q) : V mX10_shutOf (d + 1) b 12 [some (.ref 0), some (.int l1), none] [.int s1, .int s0] SM im Q := by
  refine V.iadd dX10_shutOf_12 ?_
  refine V.aload_n dX10_shutOf_13 rfl rfl ?_
  refine V.iload_n dX10_shutOf_14 rfl rfl ?_
  refine V.iconst (v := 2) dX10_shutOf_15 (by decide) ?_
  refine V.cVI rfl vX10_its lkX10_111 wX10_its (ci := 10) rfl (by rfl) (As := [.int l1, .int (2 : Int32)]) rfl rfl rfl dX10_shutOf_16 hs (fun x2 im2 h2 => ?_)
  exact k x2 im2 h2
theorem bX10_shutOf_19 {d : Nat} {b : Nat × Nat}  {im : XI} {Q : Option Value → XS → XI → Prop} {l1 : Int32} {s0 : Int32} {s1 : Int32} {P : Int32 → XI → Prop} (g0 : ¬ s1 = 0) (hs : SpI mX10_blinksNow d [.ref 0, .int l1] SM im P) (k : ∀ x2 im2, P x2 im2 → V mX10_shutOf (d + 1) b 28 [some (.ref 0), some (.int l1), some (.int (s0 - s0 / s1 * s1))] [.int x2, .int (s0 - s0 / s1 * s1), .ref 0] SM im2 Q) : V mX10_shutOf (d + 1) b 19 [some (.ref 0), some (.int l1), none] [.int s1, .int s0] SM im Q := by
  refine V.irem dX10_shutOf_19 g0 ?_
  refine V.istore_n dX10_shutOf_20 rfl rfl rfl ?_
  refine V.aload_n dX10_shutOf_21 rfl rfl ?_
  refine V.iload_n dX10_shutOf_22 rfl rfl ?_
  refine V.aload_n dX10_shutOf_23 rfl rfl ?_
  refine V.iload_n dX10_shutOf_24 rfl rfl ?_
  refine V.cVI rfl vX10_blinksNow lkX10_121 wX10_blinksNow (ci := 10) rfl (by rfl) (As := [.int l1]) rfl rfl rfl dX10_shutOf_25 hs (fun x2 im2 h2 => ?_)
  exact k x2 im2 h2
theorem bX10_shutOf_28 {d : Nat} {b : Nat × Nat}  {im : XI} {Q : Option Value → XS → XI → Prop} {l1 : Int32} {l2 : Int32} {s0 : Nat} {s1 : Int32} {s2 : Int32}  (kt : s2 = 0 → V mX10_shutOf d b 35 [some (.ref 0), some (.int l1), some (.int l2)] [.int s1, .ref s0] SM im Q) (kf : ¬ s2 = 0 → V mX10_shutOf d b 31 [some (.ref 0), some (.int l1), some (.int l2)] [.int s1, .ref s0] SM im Q) : V mX10_shutOf d b 28 [some (.ref 0), some (.int l1), some (.int l2)] [.int s2, .int s1, .ref s0] SM im Q := by
  refine V.if_eq (tgt := 35) dX10_shutOf_28 (by decide) (fun h => ?_) (fun h => ?_)
  · exact kt h
  · exact kf h
theorem bX10_shutOf_31 {d : Nat} {b : Nat × Nat}  {im : XI} {Q : Option Value → XS → XI → Prop} {l1 : Int32} {l2 : Int32} {s0 : Nat} {s1 : Int32}  (k : V mX10_shutOf d b 36 [some (.ref 0), some (.int l1), some (.int l2)] [.int (1 : Int32), .int s1, .ref s0] SM im Q) : V mX10_shutOf d b 31 [some (.ref 0), some (.int l1), some (.int l2)] [.int s1, .ref s0] SM im Q := by
  refine V.iconst (v := 1) dX10_shutOf_31 (by decide) ?_
  refine V.goto (tgt := 36) dX10_shutOf_32 (by decide) ?_
  exact k
theorem bX10_shutOf_35 {d : Nat} {b : Nat × Nat}  {im : XI} {Q : Option Value → XS → XI → Prop} {l1 : Int32} {l2 : Int32} {s0 : Nat} {s1 : Int32}  (k : V mX10_shutOf d b 36 [some (.ref 0), some (.int l1), some (.int l2)] [.int (0 : Int32), .int s1, .ref s0] SM im Q) : V mX10_shutOf d b 35 [some (.ref 0), some (.int l1), some (.int l2)] [.int s1, .ref s0] SM im Q := by
  refine V.iconst (v := 0) dX10_shutOf_35 (by decide) ?_
  exact k
theorem bX10_shutOf_36 {d : Nat} {b : Nat × Nat}  {im : XI} {Q : Option Value → XS → XI → Prop} {l1 : Int32} {l2 : Int32} {s0 : Nat} {s1 : Int32} {s2 : Int32} {P : Int32 → XI → Prop} (g0 : SM.1[s0]? = some (.inl 10)) (hs : SpI mX10_shutTold d [.ref s0, .int s1, .int s2, .int ((im 1 0) - (im 1 0) / (24 : Int32) * (24 : Int32))] SM im P) (k : ∀ x2 im2, P x2 im2 → V mX10_shutOf (d + 1) b 48 [some (.ref 0), some (.int l1), some (.int l2)] [.int x2] SM im2 Q) : V mX10_shutOf (d + 1) b 36 [some (.ref 0), some (.int l1), some (.int l2)] [.int s2, .int s1, .ref s0] SM im Q := by
  refine V.aload_n dX10_shutOf_36 rfl rfl ?_
  refine V.getR fX10_7 rfl (by rfl) (by rfl) dX10_shutOf_37 ?_
  refine V.iconst (v := 0) dX10_shutOf_40 (by decide) ?_
  refine V.iald (i := 0) ⟨by rfl, by rfl⟩ (by rfl) (by decide) dX10_shutOf_41 ?_
  refine V.bipush (v := 24) dX10_shutOf_42 (by decide) ?_
  refine V.irem dX10_shutOf_44 (by decide) ?_
  refine V.cVI rfl vX10_shutTold lkX10_124 wX10_shutTold (ci := 10) rfl g0 (As := [.int s1, .int s2, .int ((im 1 0) - (im 1 0) / (24 : Int32) * (24 : Int32))]) rfl rfl rfl dX10_shutOf_45 hs (fun x2 im2 h2 => ?_)
  exact k x2 im2 h2
theorem bX10_shutOf_48 {d : Nat} {b : Nat × Nat}  {im : XI} {Q : Option Value → XS → XI → Prop} {l1 : Int32} {l2 : Int32} {s0 : Int32}  (hq : Q (some (.int s0)) SM im) : V mX10_shutOf d b 48 [some (.ref 0), some (.int l1), some (.int l2)] [.int s0] SM im Q := by
  exact V.iret rfl dX10_shutOf_48 hq
theorem bX10_shutNow_0 {d : Nat} {b : Nat × Nat}  {im : XI} {Q : Option Value → XS → XI → Prop}   (k : V mX10_shutNow d b 4 [some (.ref 0), some (.int (0 : Int32)), some (.int (0 : Int32))] [] SM im Q) : V mX10_shutNow d b 0 [some (.ref 0), none, none] [] SM im Q := by
  refine V.iconst (v := 0) dX10_shutNow_0 (by decide) ?_
  refine V.istore_n dX10_shutNow_1 rfl rfl rfl ?_
  refine V.iconst (v := 0) dX10_shutNow_2 (by decide) ?_
  refine V.istore_n dX10_shutNow_3 rfl rfl rfl ?_
  exact k
theorem bX10_shutNow_4 {d : Nat} {b : Nat × Nat}  {im : XI} {Q : Option Value → XS → XI → Prop} {l1 : Int32} {l2 : Int32}  (kt : (im 1 4) ≤ l2 → V mX10_shutNow d b 30 [some (.ref 0), some (.int l1), some (.int l2)] [] SM im Q) (kf : ¬ (im 1 4) ≤ l2 → V mX10_shutNow d b 14 [some (.ref 0), some (.int l1), some (.int l2)] [] SM im Q) : V mX10_shutNow d b 4 [some (.ref 0), some (.int l1), some (.int l2)] [] SM im Q := by
  refine V.iload_n dX10_shutNow_4 rfl rfl ?_
  refine V.aload_n dX10_shutNow_5 rfl rfl ?_
  refine V.getR fX10_7 rfl (by rfl) (by rfl) dX10_shutNow_6 ?_
  refine V.iconst (v := 4) dX10_shutNow_9 (by decide) ?_
  refine V.iald (i := 4) ⟨by rfl, by rfl⟩ (by rfl) (by decide) dX10_shutNow_10 ?_
  refine V.icmp_ge (tgt := 30) dX10_shutNow_11 (by decide) (fun h => ?_) (fun h => ?_)
  · exact kt h
  · exact kf h
theorem bX10_shutNow_14 {d : Nat} {b : Nat × Nat}  {im : XI} {Q : Option Value → XS → XI → Prop} {l1 : Int32} {l2 : Int32} {P : Int32 → XI → Prop}  (hs : SpI mX10_shutOf d [.ref 0, .int l2] SM im P) (k : ∀ x2 im2, P x2 im2 → V mX10_shutNow (d + 1) b 20 [some (.ref 0), some (.int l1), some (.int l2)] [.int x2, .int l1] SM im2 Q) : V mX10_shutNow (d + 1) b 14 [some (.ref 0), some (.int l1), some (.int l2)] [] SM im Q := by
  refine V.iload_n dX10_shutNow_14 rfl rfl ?_
  refine V.aload_n dX10_shutNow_15 rfl rfl ?_
  refine V.iload_n dX10_shutNow_16 rfl rfl ?_
  refine V.cVI rfl vX10_shutOf lkX10_127 wX10_shutOf (ci := 10) rfl (by rfl) (As := [.int l2]) rfl rfl rfl dX10_shutNow_17 hs (fun x2 im2 h2 => ?_)
  exact k x2 im2 h2
theorem bX10_shutNow_20 {d : Nat} {b : Nat × Nat}  {im : XI} {Q : Option Value → XS → XI → Prop} {l1 : Int32} {l2 : Int32} {s0 : Int32} {s1 : Int32}  (k : V mX10_shutNow d b 4 [some (.ref 0), some (.int (s0 ||| (s1 <<< (l2 &&& 31)))), some (.int (l2 + (1 : Int32)))] [] SM im Q) : V mX10_shutNow d b 20 [some (.ref 0), some (.int l1), some (.int l2)] [.int s1, .int s0] SM im Q := by
  refine V.iload_n dX10_shutNow_20 rfl rfl ?_
  refine V.ishl dX10_shutNow_21 ?_
  refine V.ior dX10_shutNow_22 ?_
  refine V.istore_n dX10_shutNow_23 rfl rfl rfl ?_
  refine V.iinc (v := (l2 + (1 : Int32))) dX10_shutNow_24 rfl rfl rfl ?_
  refine V.goto (tgt := 4) dX10_shutNow_27 (by decide) ?_
  exact k
theorem bX10_shutNow_30 {d : Nat} {b : Nat × Nat}  {im : XI} {Q : Option Value → XS → XI → Prop} {l1 : Int32} {l2 : Int32}  (hq : Q (some (.int l1)) SM im) : V mX10_shutNow d b 30 [some (.ref 0), some (.int l1), some (.int l2)] [] SM im Q := by
  refine V.iload_n dX10_shutNow_30 rfl rfl ?_
  exact V.iret rfl dX10_shutNow_31 hq
theorem bX10_onBy_0 {d : Nat} {b : Nat × Nat}  {im : XI} {Q : Option Value → XS → XI → Prop} {l1 : Int32} {l2 : Int32} {P : Int32 → XI → Prop}  (hs : SpI mX10_ofDoing d [.ref 0, .int l1, .int (0 : Int32)] SM im P) (k : ∀ x2 im2, P x2 im2 → V mX10_onBy (d + 1) b 6 [some (.ref 0), some (.int l1), some (.int l2), none] [.int x2] SM im2 Q) : V mX10_onBy (d + 1) b 0 [some (.ref 0), some (.int l1), some (.int l2), none] [] SM im Q := by
  refine V.aload_n dX10_onBy_0 rfl rfl ?_
  refine V.iload_n dX10_onBy_1 rfl rfl ?_
  refine V.iconst (v := 0) dX10_onBy_2 (by decide) ?_
  refine V.cVI rfl vX10_ofDoing lkX10_130 wX10_ofDoing (ci := 10) rfl (by rfl) (As := [.int l1, .int (0 : Int32)]) rfl rfl rfl dX10_onBy_3 hs (fun x2 im2 h2 => ?_)
  exact k x2 im2 h2
theorem bX10_onBy_6 {d : Nat} {b : Nat × Nat}  {im : XI} {Q : Option Value → XS → XI → Prop} {l1 : Int32} {l2 : Int32} {s0 : Int32} {P : Int32 → XI → Prop}  (hs : SpI mX10_triesOf d [.ref 0, .int s0] SM im P) (k : ∀ x2 im2, P x2 im2 → V mX10_onBy (d + 1) b 13 [some (.ref 0), some (.int l1), some (.int l2), some (.int s0)] [.int x2, .ref 0] SM im2 Q) : V mX10_onBy (d + 1) b 6 [some (.ref 0), some (.int l1), some (.int l2), none] [.int s0] SM im Q := by
  refine V.istore_n dX10_onBy_6 rfl rfl rfl ?_
  refine V.aload_n dX10_onBy_7 rfl rfl ?_
  refine V.aload_n dX10_onBy_8 rfl rfl ?_
  refine V.iload_n dX10_onBy_9 rfl rfl ?_
  refine V.cVI rfl vX10_triesOf lkX10_133 wX10_triesOf (ci := 10) rfl (by rfl) (As := [.int s0]) rfl rfl rfl dX10_onBy_10 hs (fun x2 im2 h2 => ?_)
  exact k x2 im2 h2
theorem bX10_onBy_13 {d : Nat} {b : Nat × Nat}  {im : XI} {Q : Option Value → XS → XI → Prop} {l1 : Int32} {l2 : Int32} {l3 : Int32} {s0 : Nat} {s1 : Int32} {P : Int32 → XI → Prop}  (hs : SpI mX10_manyIn d [.int (l2 &&& (((1 : Int32) <<< (l3 &&& 31)) ^^^ (-1 : Int32)))] SM im P) (k : ∀ x2 im2, P x2 im2 → V mX10_onBy (d + 1) b 23 [some (.ref 0), some (.int l1), some (.int l2), some (.int l3)] [.int x2, .int s1, .ref s0] SM im2 Q) : V mX10_onBy (d + 1) b 13 [some (.ref 0), some (.int l1), some (.int l2), some (.int l3)] [.int s1, .ref s0] SM im Q := by
  refine V.iload_n dX10_onBy_13 rfl rfl ?_
  refine V.iconst (v := 1) dX10_onBy_14 (by decide) ?_
  refine V.iload_n dX10_onBy_15 rfl rfl ?_
  refine V.ishl dX10_onBy_16 ?_
  refine V.iconst (v := -1) dX10_onBy_17 (by decide) ?_
  refine V.ixor dX10_onBy_18 ?_
  refine V.iand dX10_onBy_19 ?_
  refine V.cSI rfl vX10_manyIn lkX10_136 sX10_manyIn (As := [.int (l2 &&& (((1 : Int32) <<< (l3 &&& 31)) ^^^ (-1 : Int32)))]) rfl rfl rfl dX10_onBy_20 hs (fun x2 im2 h2 => ?_)
  exact k x2 im2 h2
theorem bX10_onBy_23 {d : Nat} {b : Nat × Nat}  {im : XI} {Q : Option Value → XS → XI → Prop} {l1 : Int32} {l2 : Int32} {l3 : Int32} {s0 : Nat} {s1 : Int32} {s2 : Int32} {P : Int32 → XI → Prop}  (hs : SpI mX10_ofDoing d [.ref 0, .int l1, .int (1 : Int32)] SM im P) (k : ∀ x2 im2, P x2 im2 → V mX10_onBy (d + 1) b 29 [some (.ref 0), some (.int l1), some (.int l2), some (.int l3)] [.int x2, .int s2, .int s1, .ref s0] SM im2 Q) : V mX10_onBy (d + 1) b 23 [some (.ref 0), some (.int l1), some (.int l2), some (.int l3)] [.int s2, .int s1, .ref s0] SM im Q := by
  refine V.aload_n dX10_onBy_23 rfl rfl ?_
  refine V.iload_n dX10_onBy_24 rfl rfl ?_
  refine V.iconst (v := 1) dX10_onBy_25 (by decide) ?_
  refine V.cVI rfl vX10_ofDoing lkX10_130 wX10_ofDoing (ci := 10) rfl (by rfl) (As := [.int l1, .int (1 : Int32)]) rfl rfl rfl dX10_onBy_26 hs (fun x2 im2 h2 => ?_)
  exact k x2 im2 h2
theorem bX10_onBy_29 {d : Nat} {b : Nat × Nat}  {im : XI} {Q : Option Value → XS → XI → Prop} {l1 : Int32} {l2 : Int32} {l3 : Int32} {s0 : Nat} {s1 : Int32} {s2 : Int32} {s3 : Int32} {P : Int32 → XI → Prop} (g0 : SM.1[s0]? = some (.inl 10)) (hs : SpI mX10_onTold d [.ref s0, .int s1, .int s2, .int s3] SM im P) (k : ∀ x2 im2, P x2 im2 → V mX10_onBy (d + 1) b 32 [some (.ref 0), some (.int l1), some (.int l2), some (.int l3)] [.int x2] SM im2 Q) : V mX10_onBy (d + 1) b 29 [some (.ref 0), some (.int l1), some (.int l2), some (.int l3)] [.int s3, .int s2, .int s1, .ref s0] SM im Q := by
  refine V.cVI rfl vX10_onTold lkX10_139 wX10_onTold (ci := 10) rfl g0 (As := [.int s1, .int s2, .int s3]) rfl rfl rfl dX10_onBy_29 hs (fun x2 im2 h2 => ?_)
  exact k x2 im2 h2
theorem bX10_onBy_32 {d : Nat} {b : Nat × Nat}  {im : XI} {Q : Option Value → XS → XI → Prop} {l1 : Int32} {l2 : Int32} {l3 : Int32} {s0 : Int32}  (hq : Q (some (.int s0)) SM im) : V mX10_onBy d b 32 [some (.ref 0), some (.int l1), some (.int l2), some (.int l3)] [.int s0] SM im Q := by
  exact V.iret rfl dX10_onBy_32 hq
theorem bX10_getsOn_0 {d : Nat} {b : Nat × Nat}  {im : XI} {Q : Option Value → XS → XI → Prop} {l1 : Int32} {l2 : Int32} {P : Int32 → XI → Prop}  (hs : SpI mX10_ofDoing d [.ref 0, .int l1, .int (1 : Int32)] SM im P) (k : ∀ x2 im2, P x2 im2 → V mX10_getsOn (d + 1) b 6 [some (.ref 0), some (.int l1), some (.int l2), none] [.int x2] SM im2 Q) : V mX10_getsOn (d + 1) b 0 [some (.ref 0), some (.int l1), some (.int l2), none] [] SM im Q := by
  refine V.aload_n dX10_getsOn_0 rfl rfl ?_
  refine V.iload_n dX10_getsOn_1 rfl rfl ?_
  refine V.iconst (v := 1) dX10_getsOn_2 (by decide) ?_
  refine V.cVI rfl vX10_ofDoing lkX10_130 wX10_ofDoing (ci := 10) rfl (by rfl) (As := [.int l1, .int (1 : Int32)]) rfl rfl rfl dX10_getsOn_3 hs (fun x2 im2 h2 => ?_)
  exact k x2 im2 h2
theorem bX10_getsOn_6 {d : Nat} {b : Nat × Nat}  {im : XI} {Q : Option Value → XS → XI → Prop} {l1 : Int32} {l2 : Int32} {s0 : Int32}  (kt : s0 = 0 → V mX10_getsOn d b 24 [some (.ref 0), some (.int l1), some (.int l2), some (.int s0)] [] SM im Q) (kf : ¬ s0 = 0 → V mX10_getsOn d b 11 [some (.ref 0), some (.int l1), some (.int l2), some (.int s0)] [] SM im Q) : V mX10_getsOn d b 6 [some (.ref 0), some (.int l1), some (.int l2), none] [.int s0] SM im Q := by
  refine V.istore_n dX10_getsOn_6 rfl rfl rfl ?_
  refine V.iload_n dX10_getsOn_7 rfl rfl ?_
  refine V.if_eq (tgt := 24) dX10_getsOn_8 (by decide) (fun h => ?_) (fun h => ?_)
  · exact kt h
  · exact kf h
theorem bX10_getsOn_11 {d : Nat} {b : Nat × Nat}  {im : XI} {Q : Option Value → XS → XI → Prop} {l1 : Int32} {l2 : Int32} {l3 : Int32} {P : Int32 → XI → Prop}  (hs : SpI mX10_ofDoing d [.ref 0, .int l1, .int (2 : Int32)] SM im P) (k : ∀ x2 im2, P x2 im2 → V mX10_getsOn (d + 1) b 17 [some (.ref 0), some (.int l1), some (.int l2), some (.int l3)] [.int x2] SM im2 Q) : V mX10_getsOn (d + 1) b 11 [some (.ref 0), some (.int l1), some (.int l2), some (.int l3)] [] SM im Q := by
  refine V.aload_n dX10_getsOn_11 rfl rfl ?_
  refine V.iload_n dX10_getsOn_12 rfl rfl ?_
  refine V.iconst (v := 2) dX10_getsOn_13 (by decide) ?_
  refine V.cVI rfl vX10_ofDoing lkX10_130 wX10_ofDoing (ci := 10) rfl (by rfl) (As := [.int l1, .int (2 : Int32)]) rfl rfl rfl dX10_getsOn_14 hs (fun x2 im2 h2 => ?_)
  exact k x2 im2 h2
theorem bX10_getsOn_17 {d : Nat} {b : Nat × Nat}  {im : XI} {Q : Option Value → XS → XI → Prop} {l1 : Int32} {l2 : Int32} {l3 : Int32} {s0 : Int32}  (kt : (s0 &&& (l2 ^^^ (-1 : Int32))) = 0 → V mX10_getsOn d b 26 [some (.ref 0), some (.int l1), some (.int l2), some (.int l3)] [] SM im Q) (kf : ¬ (s0 &&& (l2 ^^^ (-1 : Int32))) = 0 → V mX10_getsOn d b 24 [some (.ref 0), some (.int l1), some (.int l2), some (.int l3)] [] SM im Q) : V mX10_getsOn d b 17 [some (.ref 0), some (.int l1), some (.int l2), some (.int l3)] [.int s0] SM im Q := by
  refine V.iload_n dX10_getsOn_17 rfl rfl ?_
  refine V.iconst (v := -1) dX10_getsOn_18 (by decide) ?_
  refine V.ixor dX10_getsOn_19 ?_
  refine V.iand dX10_getsOn_20 ?_
  refine V.if_eq (tgt := 26) dX10_getsOn_21 (by decide) (fun h => ?_) (fun h => ?_)
  · exact kt h
  · exact kf h
theorem bX10_getsOn_24 {d : Nat} {b : Nat × Nat}  {im : XI} {Q : Option Value → XS → XI → Prop} {l1 : Int32} {l2 : Int32} {l3 : Int32}  (hq : Q (some (.int (0 : Int32))) SM im) : V mX10_getsOn d b 24 [some (.ref 0), some (.int l1), some (.int l2), some (.int l3)] [] SM im Q := by
  refine V.iconst (v := 0) dX10_getsOn_24 (by decide) ?_
  exact V.zret rfl (by decide) dX10_getsOn_25 hq
theorem bX10_getsOn_26 {d : Nat} {b : Nat × Nat}  {im : XI} {Q : Option Value → XS → XI → Prop} {l1 : Int32} {l2 : Int32} {l3 : Int32} {P : Int32 → XI → Prop}  (hs : SpI mX10_onBy d [.ref 0, .int l1, .int l2] SM im P) (k : ∀ x2 im2, P x2 im2 → V mX10_getsOn (d + 1) b 36 [some (.ref 0), some (.int l1), some (.int l2), some (.int l3)] [.int x2, .int l3, .int (1 : Int32), .int l1, .ref 0] SM im2 Q) : V mX10_getsOn (d + 1) b 26 [some (.ref 0), some (.int l1), some (.int l2), some (.int l3)] [] SM im Q := by
  refine V.aload_n dX10_getsOn_26 rfl rfl ?_
  refine V.iload_n dX10_getsOn_27 rfl rfl ?_
  refine V.iconst (v := 1) dX10_getsOn_28 (by decide) ?_
  refine V.iload_n dX10_getsOn_29 rfl rfl ?_
  refine V.aload_n dX10_getsOn_30 rfl rfl ?_
  refine V.iload_n dX10_getsOn_31 rfl rfl ?_
  refine V.iload_n dX10_getsOn_32 rfl rfl ?_
  refine V.cVI rfl vX10_onBy lkX10_142 wX10_onBy (ci := 10) rfl (by rfl) (As := [.int l1, .int l2]) rfl rfl rfl dX10_getsOn_33 hs (fun x2 im2 h2 => ?_)
  exact k x2 im2 h2
theorem bX10_getsOn_36 {d : Nat} {b : Nat × Nat}  {im : XI} {Q : Option Value → XS → XI → Prop} {l1 : Int32} {l2 : Int32} {l3 : Int32} {s0 : Nat} {s1 : Int32} {s2 : Int32} {s3 : Int32} {s4 : Int32} {P : Int32 → XI → Prop}  (hs : SpI mX10_held d [.int (s3 - s4), .int (0 : Int32), .int (99 : Int32)] SM im P) (k : ∀ x2 im2, P x2 im2 → V mX10_getsOn (d + 1) b 43 [some (.ref 0), some (.int l1), some (.int l2), some (.int l3)] [.int x2, .int s2, .int s1, .ref s0] SM im2 Q) : V mX10_getsOn (d + 1) b 36 [some (.ref 0), some (.int l1), some (.int l2), some (.int l3)] [.int s4, .int s3, .int s2, .int s1, .ref s0] SM im Q := by
  refine V.isub dX10_getsOn_36 ?_
  refine V.iconst (v := 0) dX10_getsOn_37 (by decide) ?_
  refine V.bipush (v := 99) dX10_getsOn_38 (by decide) ?_
  refine V.cSI rfl vX10_held lkX10_118 sX10_held (As := [.int (s3 - s4), .int (0 : Int32), .int (99 : Int32)]) rfl rfl rfl dX10_getsOn_40 hs (fun x2 im2 h2 => ?_)
  exact k x2 im2 h2
theorem bX10_getsOn_43 {d : Nat} {b : Nat × Nat}  {im : XI} {Q : Option Value → XS → XI → Prop} {l1 : Int32} {l2 : Int32} {l3 : Int32} {s0 : Nat} {s1 : Int32} {s2 : Int32} {s3 : Int32} {P : XI → Prop} (g0 : SM.1[s0]? = some (.inl 10)) (hs : SpV mX10_laysDoing d [.ref s0, .int s1, .int s2, .int s3] SM im P) (k : ∀ im2, P im2 → V mX10_getsOn (d + 1) b 46 [some (.ref 0), some (.int l1), some (.int l2), some (.int l3)] [] SM im2 Q) : V mX10_getsOn (d + 1) b 43 [some (.ref 0), some (.int l1), some (.int l2), some (.int l3)] [.int s3, .int s2, .int s1, .ref s0] SM im Q := by
  refine V.cVV rfl vX10_laysDoing lkX10_145 wX10_laysDoing (ci := 10) rfl g0 (As := [.int s1, .int s2, .int s3]) rfl rfl rfl dX10_getsOn_43 hs (fun im2 h2 => ?_)
  exact k im2 h2
theorem bX10_getsOn_46 {d : Nat} {b : Nat × Nat}  {im : XI} {Q : Option Value → XS → XI → Prop} {l1 : Int32} {l2 : Int32} {l3 : Int32} {P : Int32 → XI → Prop}  (hs : SpI mX10_ofDoing d [.ref 0, .int l1, .int (1 : Int32)] SM im P) (k : ∀ x2 im2, P x2 im2 → V mX10_getsOn (d + 1) b 52 [some (.ref 0), some (.int l1), some (.int l2), some (.int l3)] [.int x2] SM im2 Q) : V mX10_getsOn (d + 1) b 46 [some (.ref 0), some (.int l1), some (.int l2), some (.int l3)] [] SM im Q := by
  refine V.aload_n dX10_getsOn_46 rfl rfl ?_
  refine V.iload_n dX10_getsOn_47 rfl rfl ?_
  refine V.iconst (v := 1) dX10_getsOn_48 (by decide) ?_
  refine V.cVI rfl vX10_ofDoing lkX10_130 wX10_ofDoing (ci := 10) rfl (by rfl) (As := [.int l1, .int (1 : Int32)]) rfl rfl rfl dX10_getsOn_49 hs (fun x2 im2 h2 => ?_)
  exact k x2 im2 h2
theorem bX10_getsOn_52 {d : Nat} {b : Nat × Nat}  {im : XI} {Q : Option Value → XS → XI → Prop} {l1 : Int32} {l2 : Int32} {l3 : Int32} {s0 : Int32}  (kt : ¬ s0 = 0 → V mX10_getsOn d b 59 [some (.ref 0), some (.int l1), some (.int l2), some (.int l3)] [] SM im Q) (kf : s0 = 0 → V mX10_getsOn d b 55 [some (.ref 0), some (.int l1), some (.int l2), some (.int l3)] [] SM im Q) : V mX10_getsOn d b 52 [some (.ref 0), some (.int l1), some (.int l2), some (.int l3)] [.int s0] SM im Q := by
  refine V.if_ne (tgt := 59) dX10_getsOn_52 (by decide) (fun h => ?_) (fun h => ?_)
  · exact kt h
  · exact kf h
theorem bX10_getsOn_55 {d : Nat} {b : Nat × Nat}  {im : XI} {Q : Option Value → XS → XI → Prop} {l1 : Int32} {l2 : Int32} {l3 : Int32}  (k : V mX10_getsOn d b 60 [some (.ref 0), some (.int l1), some (.int l2), some (.int l3)] [.int (1 : Int32)] SM im Q) : V mX10_getsOn d b 55 [some (.ref 0), some (.int l1), some (.int l2), some (.int l3)] [] SM im Q := by
  refine V.iconst (v := 1) dX10_getsOn_55 (by decide) ?_
  refine V.goto (tgt := 60) dX10_getsOn_56 (by decide) ?_
  exact k
theorem bX10_getsOn_59 {d : Nat} {b : Nat × Nat}  {im : XI} {Q : Option Value → XS → XI → Prop} {l1 : Int32} {l2 : Int32} {l3 : Int32}  (k : V mX10_getsOn d b 60 [some (.ref 0), some (.int l1), some (.int l2), some (.int l3)] [.int (0 : Int32)] SM im Q) : V mX10_getsOn d b 59 [some (.ref 0), some (.int l1), some (.int l2), some (.int l3)] [] SM im Q := by
  refine V.iconst (v := 0) dX10_getsOn_59 (by decide) ?_
  exact k
theorem bX10_getsOn_60 {d : Nat} {b : Nat × Nat}  {im : XI} {Q : Option Value → XS → XI → Prop} {l1 : Int32} {l2 : Int32} {l3 : Int32} {s0 : Int32} (g0 : s0 = 0 ∨ s0 = 1) (hq : Q (some (.int s0)) SM im) : V mX10_getsOn d b 60 [some (.ref 0), some (.int l1), some (.int l2), some (.int l3)] [.int s0] SM im Q := by
  exact V.zret rfl g0 dX10_getsOn_60 hq
theorem bX10_aTick_0 {d : Nat} {b : Nat × Nat}  {im : XI} {Q : Option Value → XS → XI → Prop} {P : Int32 → XI → Prop}  (hs : SpI mX10_shutNow d [.ref 0] SM im P) (k : ∀ x2 im2, P x2 im2 → V mX10_aTick (d + 1) b 4 [some (.ref 0), none, none, none] [.int x2] SM im2 Q) : V mX10_aTick (d + 1) b 0 [some (.ref 0), none, none, none] [] SM im Q := by
  refine V.aload_n dX10_aTick_0 rfl rfl ?_
  refine V.cVI rfl vX10_shutNow lkX10_149 wX10_shutNow (ci := 10) rfl (by rfl) (As := []) rfl rfl rfl dX10_aTick_1 hs (fun x2 im2 h2 => ?_)
  exact k x2 im2 h2
theorem bX10_aTick_4 {d : Nat} {b : Nat × Nat}  {im : XI} {Q : Option Value → XS → XI → Prop} {s0 : Int32}  (k : V mX10_aTick d b 9 [some (.ref 0), some (.int s0), some (.int (0 : Int32)), some (.int (0 : Int32))] [] SM im Q) : V mX10_aTick d b 4 [some (.ref 0), none, none, none] [.int s0] SM im Q := by
  refine V.istore_n dX10_aTick_4 rfl rfl rfl ?_
  refine V.iconst (v := 0) dX10_aTick_5 (by decide) ?_
  refine V.istore_n dX10_aTick_6 rfl rfl rfl ?_
  refine V.iconst (v := 0) dX10_aTick_7 (by decide) ?_
  refine V.istore_n dX10_aTick_8 rfl rfl rfl ?_
  exact k
theorem bX10_aTick_9 {d : Nat} {b : Nat × Nat}  {im : XI} {Q : Option Value → XS → XI → Prop} {l1 : Int32} {l2 : Int32} {l3 : Int32}  (kt : (im 1 5) ≤ l3 → V mX10_aTick d b 42 [some (.ref 0), some (.int l1), some (.int l2), some (.int l3)] [] SM im Q) (kf : ¬ (im 1 5) ≤ l3 → V mX10_aTick d b 19 [some (.ref 0), some (.int l1), some (.int l2), some (.int l3)] [] SM im Q) : V mX10_aTick d b 9 [some (.ref 0), some (.int l1), some (.int l2), some (.int l3)] [] SM im Q := by
  refine V.iload_n dX10_aTick_9 rfl rfl ?_
  refine V.aload_n dX10_aTick_10 rfl rfl ?_
  refine V.getR fX10_7 rfl (by rfl) (by rfl) dX10_aTick_11 ?_
  refine V.iconst (v := 5) dX10_aTick_14 (by decide) ?_
  refine V.iald (i := 5) ⟨by rfl, by rfl⟩ (by rfl) (by decide) dX10_aTick_15 ?_
  refine V.icmp_ge (tgt := 42) dX10_aTick_16 (by decide) (fun h => ?_) (fun h => ?_)
  · exact kt h
  · exact kf h
theorem bX10_aTick_19 {d : Nat} {b : Nat × Nat}  {im : XI} {Q : Option Value → XS → XI → Prop} {l1 : Int32} {l2 : Int32} {l3 : Int32} {P : Int32 → XI → Prop}  (hs : SpI mX10_getsOn d [.ref 0, .int l3, .int l1] SM im P) (k : ∀ x2 im2, P x2 im2 → V mX10_aTick (d + 1) b 26 [some (.ref 0), some (.int l1), some (.int l2), some (.int l3)] [.int x2, .int l2] SM im2 Q) : V mX10_aTick (d + 1) b 19 [some (.ref 0), some (.int l1), some (.int l2), some (.int l3)] [] SM im Q := by
  refine V.iload_n dX10_aTick_19 rfl rfl ?_
  refine V.aload_n dX10_aTick_20 rfl rfl ?_
  refine V.iload_n dX10_aTick_21 rfl rfl ?_
  refine V.iload_n dX10_aTick_22 rfl rfl ?_
  refine V.cVI rfl vX10_getsOn lkX10_152 wX10_getsOn (ci := 10) rfl (by rfl) (As := [.int l3, .int l1]) rfl rfl rfl dX10_aTick_23 hs (fun x2 im2 h2 => ?_)
  exact k x2 im2 h2
theorem bX10_aTick_26 {d : Nat} {b : Nat × Nat}  {im : XI} {Q : Option Value → XS → XI → Prop} {l1 : Int32} {l2 : Int32} {l3 : Int32} {s0 : Int32} {s1 : Int32}  (kt : s1 = 0 → V mX10_aTick d b 33 [some (.ref 0), some (.int l1), some (.int l2), some (.int l3)] [.int s0] SM im Q) (kf : ¬ s1 = 0 → V mX10_aTick d b 29 [some (.ref 0), some (.int l1), some (.int l2), some (.int l3)] [.int s0] SM im Q) : V mX10_aTick d b 26 [some (.ref 0), some (.int l1), some (.int l2), some (.int l3)] [.int s1, .int s0] SM im Q := by
  refine V.if_eq (tgt := 33) dX10_aTick_26 (by decide) (fun h => ?_) (fun h => ?_)
  · exact kt h
  · exact kf h
theorem bX10_aTick_29 {d : Nat} {b : Nat × Nat}  {im : XI} {Q : Option Value → XS → XI → Prop} {l1 : Int32} {l2 : Int32} {l3 : Int32} {s0 : Int32}  (k : V mX10_aTick d b 34 [some (.ref 0), some (.int l1), some (.int l2), some (.int l3)] [.int (1 : Int32), .int s0] SM im Q) : V mX10_aTick d b 29 [some (.ref 0), some (.int l1), some (.int l2), some (.int l3)] [.int s0] SM im Q := by
  refine V.iconst (v := 1) dX10_aTick_29 (by decide) ?_
  refine V.goto (tgt := 34) dX10_aTick_30 (by decide) ?_
  exact k
theorem bX10_aTick_33 {d : Nat} {b : Nat × Nat}  {im : XI} {Q : Option Value → XS → XI → Prop} {l1 : Int32} {l2 : Int32} {l3 : Int32} {s0 : Int32}  (k : V mX10_aTick d b 34 [some (.ref 0), some (.int l1), some (.int l2), some (.int l3)] [.int (0 : Int32), .int s0] SM im Q) : V mX10_aTick d b 33 [some (.ref 0), some (.int l1), some (.int l2), some (.int l3)] [.int s0] SM im Q := by
  refine V.iconst (v := 0) dX10_aTick_33 (by decide) ?_
  exact k
theorem bX10_aTick_34 {d : Nat} {b : Nat × Nat}  {im : XI} {Q : Option Value → XS → XI → Prop} {l1 : Int32} {l2 : Int32} {l3 : Int32} {s0 : Int32} {s1 : Int32}  (k : V mX10_aTick d b 9 [some (.ref 0), some (.int l1), some (.int (s0 + s1)), some (.int (l3 + (1 : Int32)))] [] SM im Q) : V mX10_aTick d b 34 [some (.ref 0), some (.int l1), some (.int l2), some (.int l3)] [.int s1, .int s0] SM im Q := by
  refine V.iadd dX10_aTick_34 ?_
  refine V.istore_n dX10_aTick_35 rfl rfl rfl ?_
  refine V.iinc (v := (l3 + (1 : Int32))) dX10_aTick_36 rfl rfl rfl ?_
  refine V.goto (tgt := 9) dX10_aTick_39 (by decide) ?_
  exact k
theorem bX10_aTick_42 {d : Nat} {b : Nat × Nat}  {im : XI} {Q : Option Value → XS → XI → Prop} {l1 : Int32} {l2 : Int32} {l3 : Int32}  (hq : Q (some (.int l2)) SM (xup im 1 0 ((im 1 0) + (1 : Int32)))) : V mX10_aTick d b 42 [some (.ref 0), some (.int l1), some (.int l2), some (.int l3)] [] SM im Q := by
  refine V.aload_n dX10_aTick_42 rfl rfl ?_
  refine V.getR fX10_7 rfl (by rfl) (by rfl) dX10_aTick_43 ?_
  refine V.iconst (v := 0) dX10_aTick_46 (by decide) ?_
  refine V.dup2 dX10_aTick_47 rfl rfl ?_
  refine V.iald (i := 0) ⟨by rfl, by rfl⟩ (by rfl) (by decide) dX10_aTick_48 ?_
  refine V.iconst (v := 1) dX10_aTick_49 (by decide) ?_
  refine V.iadd dX10_aTick_50 ?_
  refine V.iast (i := 0) ⟨by rfl, by rfl⟩ (by rfl) (by decide) dX10_aTick_51 ?_
  refine V.iload_n dX10_aTick_52 rfl rfl ?_
  exact V.iret rfl dX10_aTick_53 hq
theorem bX10_draw_0 {d : Nat} {b : Nat × Nat}  {im : XI} {Q : Option Value → XS → XI → Prop}   (hq : Q (some (.int ((((xup im 1 1 (((im 1 1) * (1103515245 : Int32)) + (12345 : Int32))) 1 1)).toUInt32 >>> (((8 : Int32)).toUInt32 &&& Int32.toUInt32 31)).toInt32)) SM (xup im 1 1 (((im 1 1) * (1103515245 : Int32)) + (12345 : Int32)))) : V mX10_draw d b 0 [some (.ref 0)] [] SM im Q := by
  refine V.aload_n dX10_draw_0 rfl rfl ?_
  refine V.getR fX10_7 rfl (by rfl) (by rfl) dX10_draw_1 ?_
  refine V.iconst (v := 1) dX10_draw_4 (by decide) ?_
  refine V.aload_n dX10_draw_5 rfl rfl ?_
  refine V.getR fX10_7 rfl (by rfl) (by rfl) dX10_draw_6 ?_
  refine V.iconst (v := 1) dX10_draw_9 (by decide) ?_
  refine V.iald (i := 1) ⟨by rfl, by rfl⟩ (by rfl) (by decide) dX10_draw_10 ?_
  refine V.ldc kX10_156 dX10_draw_11 ?_
  refine V.imul dX10_draw_13 ?_
  refine V.sipush (v := 12345) dX10_draw_14 (by decide) ?_
  refine V.iadd dX10_draw_17 ?_
  refine V.iast (i := 1) ⟨by rfl, by rfl⟩ (by rfl) (by decide) dX10_draw_18 ?_
  refine V.aload_n dX10_draw_19 rfl rfl ?_
  refine V.getR fX10_7 rfl (by rfl) (by rfl) dX10_draw_20 ?_
  refine V.iconst (v := 1) dX10_draw_23 (by decide) ?_
  refine V.iald (i := 1) ⟨by rfl, by rfl⟩ (by rfl) (by decide) dX10_draw_24 ?_
  refine V.bipush (v := 8) dX10_draw_25 (by decide) ?_
  refine V.iushr dX10_draw_27 ?_
  exact V.iret rfl dX10_draw_28 hq
theorem bX10_isKind_0 {d : Nat} {b : Nat × Nat} {S : XS} {im : XI} {Q : Option Value → XS → XI → Prop} {l0 : Int32} {P : Int32 → XI → Prop}  (hs : SpI mX10_in d [.int l0, .int (0 : Int32), .int (69 : Int32)] S im P) (k : ∀ x2 im2, P x2 im2 → V mX10_isKind (d + 1) b 7 [some (.int l0)] [.int x2] S im2 Q) : V mX10_isKind (d + 1) b 0 [some (.int l0)] [] S im Q := by
  refine V.iload_n dX10_isKind_0 rfl rfl ?_
  refine V.iconst (v := 0) dX10_isKind_1 (by decide) ?_
  refine V.bipush (v := 69) dX10_isKind_2 (by decide) ?_
  refine V.cSI rfl vX10_in lkX10_47 sX10_in (As := [.int l0, .int (0 : Int32), .int (69 : Int32)]) rfl rfl rfl dX10_isKind_4 hs (fun x2 im2 h2 => ?_)
  exact k x2 im2 h2
theorem bX10_isKind_7 {d : Nat} {b : Nat × Nat} {S : XS} {im : XI} {Q : Option Value → XS → XI → Prop} {l0 : Int32} {s0 : Int32} (g0 : s0 = 0 ∨ s0 = 1) (hq : Q (some (.int s0)) S im) : V mX10_isKind d b 7 [some (.int l0)] [.int s0] S im Q := by
  exact V.zret rfl g0 dX10_isKind_7 hq
theorem bX10_isBeat_0 {d : Nat} {b : Nat × Nat} {S : XS} {im : XI} {Q : Option Value → XS → XI → Prop} {l0 : Int32} {l1 : Int32} {P : Int32 → XI → Prop}  (hs : SpI mX10_in d [.int l0, .int (1 : Int32), .int (12 : Int32)] S im P) (k : ∀ x2 im2, P x2 im2 → V mX10_isBeat (d + 1) b 7 [some (.int l0), some (.int l1)] [.int x2] S im2 Q) : V mX10_isBeat (d + 1) b 0 [some (.int l0), some (.int l1)] [] S im Q := by
  refine V.iload_n dX10_isBeat_0 rfl rfl ?_
  refine V.iconst (v := 1) dX10_isBeat_1 (by decide) ?_
  refine V.bipush (v := 12) dX10_isBeat_2 (by decide) ?_
  refine V.cSI rfl vX10_in lkX10_47 sX10_in (As := [.int l0, .int (1 : Int32), .int (12 : Int32)]) rfl rfl rfl dX10_isBeat_4 hs (fun x2 im2 h2 => ?_)
  exact k x2 im2 h2
theorem bX10_isBeat_7 {d : Nat} {b : Nat × Nat} {S : XS} {im : XI} {Q : Option Value → XS → XI → Prop} {l0 : Int32} {l1 : Int32} {s0 : Int32}  (kt : s0 = 0 → V mX10_isBeat d b 25 [some (.int l0), some (.int l1)] [] S im Q) (kf : ¬ s0 = 0 → V mX10_isBeat d b 10 [some (.int l0), some (.int l1)] [] S im Q) : V mX10_isBeat d b 7 [some (.int l0), some (.int l1)] [.int s0] S im Q := by
  refine V.if_eq (tgt := 25) dX10_isBeat_7 (by decide) (fun h => ?_) (fun h => ?_)
  · exact kt h
  · exact kf h
theorem bX10_isBeat_10 {d : Nat} {b : Nat × Nat} {S : XS} {im : XI} {Q : Option Value → XS → XI → Prop} {l0 : Int32} {l1 : Int32} {P : Int32 → XI → Prop}  (hs : SpI mX10_in d [.int l1, .int (0 : Int32), .int (l0 - (1 : Int32))] S im P) (k : ∀ x2 im2, P x2 im2 → V mX10_isBeat (d + 1) b 18 [some (.int l0), some (.int l1)] [.int x2] S im2 Q) : V mX10_isBeat (d + 1) b 10 [some (.int l0), some (.int l1)] [] S im Q := by
  refine V.iload_n dX10_isBeat_10 rfl rfl ?_
  refine V.iconst (v := 0) dX10_isBeat_11 (by decide) ?_
  refine V.iload_n dX10_isBeat_12 rfl rfl ?_
  refine V.iconst (v := 1) dX10_isBeat_13 (by decide) ?_
  refine V.isub dX10_isBeat_14 ?_
  refine V.cSI rfl vX10_in lkX10_47 sX10_in (As := [.int l1, .int (0 : Int32), .int (l0 - (1 : Int32))]) rfl rfl rfl dX10_isBeat_15 hs (fun x2 im2 h2 => ?_)
  exact k x2 im2 h2
theorem bX10_isBeat_18 {d : Nat} {b : Nat × Nat} {S : XS} {im : XI} {Q : Option Value → XS → XI → Prop} {l0 : Int32} {l1 : Int32} {s0 : Int32}  (kt : s0 = 0 → V mX10_isBeat d b 25 [some (.int l0), some (.int l1)] [] S im Q) (kf : ¬ s0 = 0 → V mX10_isBeat d b 21 [some (.int l0), some (.int l1)] [] S im Q) : V mX10_isBeat d b 18 [some (.int l0), some (.int l1)] [.int s0] S im Q := by
  refine V.if_eq (tgt := 25) dX10_isBeat_18 (by decide) (fun h => ?_) (fun h => ?_)
  · exact kt h
  · exact kf h
theorem bX10_isBeat_21 {d : Nat} {b : Nat × Nat} {S : XS} {im : XI} {Q : Option Value → XS → XI → Prop} {l0 : Int32} {l1 : Int32}  (k : V mX10_isBeat d b 26 [some (.int l0), some (.int l1)] [.int (1 : Int32)] S im Q) : V mX10_isBeat d b 21 [some (.int l0), some (.int l1)] [] S im Q := by
  refine V.iconst (v := 1) dX10_isBeat_21 (by decide) ?_
  refine V.goto (tgt := 26) dX10_isBeat_22 (by decide) ?_
  exact k
theorem bX10_isBeat_25 {d : Nat} {b : Nat × Nat} {S : XS} {im : XI} {Q : Option Value → XS → XI → Prop} {l0 : Int32} {l1 : Int32}  (k : V mX10_isBeat d b 26 [some (.int l0), some (.int l1)] [.int (0 : Int32)] S im Q) : V mX10_isBeat d b 25 [some (.int l0), some (.int l1)] [] S im Q := by
  refine V.iconst (v := 0) dX10_isBeat_25 (by decide) ?_
  exact k
theorem bX10_isBeat_26 {d : Nat} {b : Nat × Nat} {S : XS} {im : XI} {Q : Option Value → XS → XI → Prop} {l0 : Int32} {l1 : Int32} {s0 : Int32} (g0 : s0 = 0 ∨ s0 = 1) (hq : Q (some (.int s0)) S im) : V mX10_isBeat d b 26 [some (.int l0), some (.int l1)] [.int s0] S im Q := by
  exact V.zret rfl g0 dX10_isBeat_26 hq
theorem bX10_person_0 {d : Nat} {b : Nat × Nat}  {im : XI} {Q : Option Value → XS → XI → Prop} {l1 : Int32} {l2 : Int32} {l3 : Int32} {P : Int32 → XI → Prop}  (hs : SpI mX10_isKind d [.int l1] SM im P) (k : ∀ x2 im2, P x2 im2 → V mX10_person (d + 1) b 4 [some (.ref 0), some (.int l1), some (.int l2), some (.int l3), none] [.int x2] SM im2 Q) : V mX10_person (d + 1) b 0 [some (.ref 0), some (.int l1), some (.int l2), some (.int l3), none] [] SM im Q := by
  refine V.iload_n dX10_person_0 rfl rfl ?_
  refine V.cSI rfl vX10_isKind lkX10_157 sX10_isKind (As := [.int l1]) rfl rfl rfl dX10_person_1 hs (fun x2 im2 h2 => ?_)
  exact k x2 im2 h2
theorem bX10_person_4 {d : Nat} {b : Nat × Nat}  {im : XI} {Q : Option Value → XS → XI → Prop} {l1 : Int32} {l2 : Int32} {l3 : Int32} {s0 : Int32}  (kt : s0 = 0 → V mX10_person d b 15 [some (.ref 0), some (.int l1), some (.int l2), some (.int l3), none] [] SM im Q) (kf : ¬ s0 = 0 → V mX10_person d b 7 [some (.ref 0), some (.int l1), some (.int l2), some (.int l3), none] [] SM im Q) : V mX10_person d b 4 [some (.ref 0), some (.int l1), some (.int l2), some (.int l3), none] [.int s0] SM im Q := by
  refine V.if_eq (tgt := 15) dX10_person_4 (by decide) (fun h => ?_) (fun h => ?_)
  · exact kt h
  · exact kf h
theorem bX10_person_7 {d : Nat} {b : Nat × Nat}  {im : XI} {Q : Option Value → XS → XI → Prop} {l1 : Int32} {l2 : Int32} {l3 : Int32} {P : Int32 → XI → Prop}  (hs : SpI mX10_isBeat d [.int l2, .int l3] SM im P) (k : ∀ x2 im2, P x2 im2 → V mX10_person (d + 1) b 12 [some (.ref 0), some (.int l1), some (.int l2), some (.int l3), none] [.int x2] SM im2 Q) : V mX10_person (d + 1) b 7 [some (.ref 0), some (.int l1), some (.int l2), some (.int l3), none] [] SM im Q := by
  refine V.iload_n dX10_person_7 rfl rfl ?_
  refine V.iload_n dX10_person_8 rfl rfl ?_
  refine V.cSI rfl vX10_isBeat lkX10_160 sX10_isBeat (As := [.int l2, .int l3]) rfl rfl rfl dX10_person_9 hs (fun x2 im2 h2 => ?_)
  exact k x2 im2 h2
theorem bX10_person_12 {d : Nat} {b : Nat × Nat}  {im : XI} {Q : Option Value → XS → XI → Prop} {l1 : Int32} {l2 : Int32} {l3 : Int32} {s0 : Int32}  (kt : ¬ s0 = 0 → V mX10_person d b 21 [some (.ref 0), some (.int l1), some (.int l2), some (.int l3), none] [] SM im Q) (kf : s0 = 0 → V mX10_person d b 15 [some (.ref 0), some (.int l1), some (.int l2), some (.int l3), none] [] SM im Q) : V mX10_person d b 12 [some (.ref 0), some (.int l1), some (.int l2), some (.int l3), none] [.int s0] SM im Q := by
  refine V.if_ne (tgt := 21) dX10_person_12 (by decide) (fun h => ?_) (fun h => ?_)
  · exact kt h
  · exact kf h
theorem bX10_person_15 {d : Nat} {b : Nat × Nat}  {im : XI} {Q : Option Value → XS → XI → Prop} {l1 : Int32} {l2 : Int32} {l3 : Int32} {P : Int32 → XI → Prop}  (hs : SpI mX10_error d [.ref 0, .int (1 : Int32)] SM im P) (k : ∀ x2 im2, P x2 im2 → V mX10_person (d + 1) b 20 [some (.ref 0), some (.int l1), some (.int l2), some (.int l3), none] [.int x2] SM im2 Q) : V mX10_person (d + 1) b 15 [some (.ref 0), some (.int l1), some (.int l2), some (.int l3), none] [] SM im Q := by
  refine V.aload_n dX10_person_15 rfl rfl ?_
  refine V.iconst (v := 1) dX10_person_16 (by decide) ?_
  refine V.cVI rfl vX10_error lkX10_51 wX10_error (ci := 10) rfl (by rfl) (As := [.int (1 : Int32)]) rfl rfl rfl dX10_person_17 hs (fun x2 im2 h2 => ?_)
  exact k x2 im2 h2
theorem bX10_person_20 {d : Nat} {b : Nat × Nat}  {im : XI} {Q : Option Value → XS → XI → Prop} {l1 : Int32} {l2 : Int32} {l3 : Int32} {s0 : Int32}  (hq : Q (some (.int s0)) SM im) : V mX10_person d b 20 [some (.ref 0), some (.int l1), some (.int l2), some (.int l3), none] [.int s0] SM im Q := by
  exact V.iret rfl dX10_person_20 hq
theorem bX10_person_21 {d : Nat} {b : Nat × Nat}  {im : XI} {Q : Option Value → XS → XI → Prop} {l1 : Int32} {l2 : Int32} {l3 : Int32}  (kt : ¬ (im 1 4) = (6 : Int32) → V mX10_person d b 38 [some (.ref 0), some (.int l1), some (.int l2), some (.int l3), none] [] SM im Q) (kf : (im 1 4) = (6 : Int32) → V mX10_person d b 32 [some (.ref 0), some (.int l1), some (.int l2), some (.int l3), none] [] SM im Q) : V mX10_person d b 21 [some (.ref 0), some (.int l1), some (.int l2), some (.int l3), none] [] SM im Q := by
  refine V.aload_n dX10_person_21 rfl rfl ?_
  refine V.getR fX10_7 rfl (by rfl) (by rfl) dX10_person_22 ?_
  refine V.iconst (v := 4) dX10_person_25 (by decide) ?_
  refine V.iald (i := 4) ⟨by rfl, by rfl⟩ (by rfl) (by decide) dX10_person_26 ?_
  refine V.bipush (v := 6) dX10_person_27 (by decide) ?_
  refine V.icmp_ne (tgt := 38) dX10_person_29 (by decide) (fun h => ?_) (fun h => ?_)
  · exact kt h
  · exact kf h
theorem bX10_person_32 {d : Nat} {b : Nat × Nat}  {im : XI} {Q : Option Value → XS → XI → Prop} {l1 : Int32} {l2 : Int32} {l3 : Int32} {P : Int32 → XI → Prop}  (hs : SpI mX10_error d [.ref 0, .int (4 : Int32)] SM im P) (k : ∀ x2 im2, P x2 im2 → V mX10_person (d + 1) b 37 [some (.ref 0), some (.int l1), some (.int l2), some (.int l3), none] [.int x2] SM im2 Q) : V mX10_person (d + 1) b 32 [some (.ref 0), some (.int l1), some (.int l2), some (.int l3), none] [] SM im Q := by
  refine V.aload_n dX10_person_32 rfl rfl ?_
  refine V.iconst (v := 4) dX10_person_33 (by decide) ?_
  refine V.cVI rfl vX10_error lkX10_51 wX10_error (ci := 10) rfl (by rfl) (As := [.int (4 : Int32)]) rfl rfl rfl dX10_person_34 hs (fun x2 im2 h2 => ?_)
  exact k x2 im2 h2
theorem bX10_person_37 {d : Nat} {b : Nat × Nat}  {im : XI} {Q : Option Value → XS → XI → Prop} {l1 : Int32} {l2 : Int32} {l3 : Int32} {s0 : Int32}  (hq : Q (some (.int s0)) SM im) : V mX10_person d b 37 [some (.ref 0), some (.int l1), some (.int l2), some (.int l3), none] [.int s0] SM im Q := by
  exact V.iret rfl dX10_person_37 hq
theorem bX10_person_38 {d : Nat} {b : Nat × Nat}  {im : XI} {Q : Option Value → XS → XI → Prop} {l1 : Int32} {l2 : Int32} {l3 : Int32} {P : XI → Prop}  (hs : SpV mX10_lays1 d [.ref 0, .int (im 1 4), .int (0 : Int32), .int (l1 / (10 : Int32))] SM im P) (k : ∀ im2, P im2 → V mX10_person (d + 1) b 57 [some (.ref 0), some (.int l1), some (.int l2), some (.int l3), some (.int (im 1 4))] [] SM im2 Q) : V mX10_person (d + 1) b 38 [some (.ref 0), some (.int l1), some (.int l2), some (.int l3), none] [] SM im Q := by
  refine V.aload_n dX10_person_38 rfl rfl ?_
  refine V.getR fX10_7 rfl (by rfl) (by rfl) dX10_person_39 ?_
  refine V.iconst (v := 4) dX10_person_42 (by decide) ?_
  refine V.iald (i := 4) ⟨by rfl, by rfl⟩ (by rfl) (by decide) dX10_person_43 ?_
  refine V.istore dX10_person_44 rfl rfl ?_
  refine V.aload_n dX10_person_46 rfl rfl ?_
  refine V.iload dX10_person_47 rfl ?_
  refine V.iconst (v := 0) dX10_person_49 (by decide) ?_
  refine V.iload_n dX10_person_50 rfl rfl ?_
  refine V.bipush (v := 10) dX10_person_51 (by decide) ?_
  refine V.idiv dX10_person_53 (by decide) ?_
  refine V.cVV rfl vX10_lays1 lkX10_163 wX10_lays1 (ci := 10) rfl (by rfl) (As := [.int (im 1 4), .int (0 : Int32), .int (l1 / (10 : Int32))]) rfl rfl rfl dX10_person_54 hs (fun im2 h2 => ?_)
  exact k im2 h2
theorem bX10_person_57 {d : Nat} {b : Nat × Nat}  {im : XI} {Q : Option Value → XS → XI → Prop} {l1 : Int32} {l2 : Int32} {l3 : Int32} {l4 : Int32} {P : XI → Prop}  (hs : SpV mX10_lays1 d [.ref 0, .int l4, .int (1 : Int32), .int (l1 - l1 / (10 : Int32) * (10 : Int32))] SM im P) (k : ∀ im2, P im2 → V mX10_person (d + 1) b 68 [some (.ref 0), some (.int l1), some (.int l2), some (.int l3), some (.int l4)] [] SM im2 Q) : V mX10_person (d + 1) b 57 [some (.ref 0), some (.int l1), some (.int l2), some (.int l3), some (.int l4)] [] SM im Q := by
  refine V.aload_n dX10_person_57 rfl rfl ?_
  refine V.iload dX10_person_58 rfl ?_
  refine V.iconst (v := 1) dX10_person_60 (by decide) ?_
  refine V.iload_n dX10_person_61 rfl rfl ?_
  refine V.bipush (v := 10) dX10_person_62 (by decide) ?_
  refine V.irem dX10_person_64 (by decide) ?_
  refine V.cVV rfl vX10_lays1 lkX10_163 wX10_lays1 (ci := 10) rfl (by rfl) (As := [.int l4, .int (1 : Int32), .int (l1 - l1 / (10 : Int32) * (10 : Int32))]) rfl rfl rfl dX10_person_65 hs (fun im2 h2 => ?_)
  exact k im2 h2
theorem bX10_person_68 {d : Nat} {b : Nat × Nat}  {im : XI} {Q : Option Value → XS → XI → Prop} {l1 : Int32} {l2 : Int32} {l3 : Int32} {l4 : Int32} {P : XI → Prop}  (hs : SpV mX10_lays1 d [.ref 0, .int l4, .int (2 : Int32), .int l2] SM im P) (k : ∀ im2, P im2 → V mX10_person (d + 1) b 76 [some (.ref 0), some (.int l1), some (.int l2), some (.int l3), some (.int l4)] [] SM im2 Q) : V mX10_person (d + 1) b 68 [some (.ref 0), some (.int l1), some (.int l2), some (.int l3), some (.int l4)] [] SM im Q := by
  refine V.aload_n dX10_person_68 rfl rfl ?_
  refine V.iload dX10_person_69 rfl ?_
  refine V.iconst (v := 2) dX10_person_71 (by decide) ?_
  refine V.iload_n dX10_person_72 rfl rfl ?_
  refine V.cVV rfl vX10_lays1 lkX10_163 wX10_lays1 (ci := 10) rfl (by rfl) (As := [.int l4, .int (2 : Int32), .int l2]) rfl rfl rfl dX10_person_73 hs (fun im2 h2 => ?_)
  exact k im2 h2
theorem bX10_person_76 {d : Nat} {b : Nat × Nat}  {im : XI} {Q : Option Value → XS → XI → Prop} {l1 : Int32} {l2 : Int32} {l3 : Int32} {l4 : Int32} {P : XI → Prop}  (hs : SpV mX10_lays1 d [.ref 0, .int l4, .int (3 : Int32), .int l3] SM im P) (k : ∀ im2, P im2 → V mX10_person (d + 1) b 84 [some (.ref 0), some (.int l1), some (.int l2), some (.int l3), some (.int l4)] [] SM im2 Q) : V mX10_person (d + 1) b 76 [some (.ref 0), some (.int l1), some (.int l2), some (.int l3), some (.int l4)] [] SM im Q := by
  refine V.aload_n dX10_person_76 rfl rfl ?_
  refine V.iload dX10_person_77 rfl ?_
  refine V.iconst (v := 3) dX10_person_79 (by decide) ?_
  refine V.iload_n dX10_person_80 rfl rfl ?_
  refine V.cVV rfl vX10_lays1 lkX10_163 wX10_lays1 (ci := 10) rfl (by rfl) (As := [.int l4, .int (3 : Int32), .int l3]) rfl rfl rfl dX10_person_81 hs (fun im2 h2 => ?_)
  exact k im2 h2
theorem bX10_person_84 {d : Nat} {b : Nat × Nat}  {im : XI} {Q : Option Value → XS → XI → Prop} {l1 : Int32} {l2 : Int32} {l3 : Int32} {l4 : Int32}  (hq : Q (some (.int l4)) SM (xup im 1 4 ((im 1 4) + (1 : Int32)))) : V mX10_person d b 84 [some (.ref 0), some (.int l1), some (.int l2), some (.int l3), some (.int l4)] [] SM im Q := by
  refine V.aload_n dX10_person_84 rfl rfl ?_
  refine V.getR fX10_7 rfl (by rfl) (by rfl) dX10_person_85 ?_
  refine V.iconst (v := 4) dX10_person_88 (by decide) ?_
  refine V.dup2 dX10_person_89 rfl rfl ?_
  refine V.iald (i := 4) ⟨by rfl, by rfl⟩ (by rfl) (by decide) dX10_person_90 ?_
  refine V.iconst (v := 1) dX10_person_91 (by decide) ?_
  refine V.iadd dX10_person_92 ?_
  refine V.iast (i := 4) ⟨by rfl, by rfl⟩ (by rfl) (by decide) dX10_person_93 ?_
  refine V.iload dX10_person_94 rfl ?_
  exact V.iret rfl dX10_person_96 hq
theorem bX10_personIs_0 {d : Nat} {b : Nat × Nat}  {im : XI} {Q : Option Value → XS → XI → Prop} {l1 : Int32} {l2 : Int32} {P : Int32 → XI → Prop}  (hs : SpI mX10_isPerson d [.ref 0, .int l1] SM im P) (k : ∀ x2 im2, P x2 im2 → V mX10_personIs (d + 1) b 5 [some (.ref 0), some (.int l1), some (.int l2)] [.int x2] SM im2 Q) : V mX10_personIs (d + 1) b 0 [some (.ref 0), some (.int l1), some (.int l2)] [] SM im Q := by
  refine V.aload_n dX10_personIs_0 rfl rfl ?_
  refine V.iload_n dX10_personIs_1 rfl rfl ?_
  refine V.cVI rfl vX10_isPerson lkX10_166 wX10_isPerson (ci := 10) rfl (by rfl) (As := [.int l1]) rfl rfl rfl dX10_personIs_2 hs (fun x2 im2 h2 => ?_)
  exact k x2 im2 h2
theorem bX10_personIs_5 {d : Nat} {b : Nat × Nat}  {im : XI} {Q : Option Value → XS → XI → Prop} {l1 : Int32} {l2 : Int32} {s0 : Int32}  (kt : s0 = 0 → V mX10_personIs d b 17 [some (.ref 0), some (.int l1), some (.int l2)] [] SM im Q) (kf : ¬ s0 = 0 → V mX10_personIs d b 8 [some (.ref 0), some (.int l1), some (.int l2)] [] SM im Q) : V mX10_personIs d b 5 [some (.ref 0), some (.int l1), some (.int l2)] [.int s0] SM im Q := by
  refine V.if_eq (tgt := 17) dX10_personIs_5 (by decide) (fun h => ?_) (fun h => ?_)
  · exact kt h
  · exact kf h
theorem bX10_personIs_8 {d : Nat} {b : Nat × Nat}  {im : XI} {Q : Option Value → XS → XI → Prop} {l1 : Int32} {l2 : Int32} {P : Int32 → XI → Prop}  (hs : SpI mX10_in d [.int l2, .int (0 : Int32), .int (4 : Int32)] SM im P) (k : ∀ x2 im2, P x2 im2 → V mX10_personIs (d + 1) b 14 [some (.ref 0), some (.int l1), some (.int l2)] [.int x2] SM im2 Q) : V mX10_personIs (d + 1) b 8 [some (.ref 0), some (.int l1), some (.int l2)] [] SM im Q := by
  refine V.iload_n dX10_personIs_8 rfl rfl ?_
  refine V.iconst (v := 0) dX10_personIs_9 (by decide) ?_
  refine V.iconst (v := 4) dX10_personIs_10 (by decide) ?_
  refine V.cSI rfl vX10_in lkX10_47 sX10_in (As := [.int l2, .int (0 : Int32), .int (4 : Int32)]) rfl rfl rfl dX10_personIs_11 hs (fun x2 im2 h2 => ?_)
  exact k x2 im2 h2
theorem bX10_personIs_14 {d : Nat} {b : Nat × Nat}  {im : XI} {Q : Option Value → XS → XI → Prop} {l1 : Int32} {l2 : Int32} {s0 : Int32}  (kt : ¬ s0 = 0 → V mX10_personIs d b 23 [some (.ref 0), some (.int l1), some (.int l2)] [] SM im Q) (kf : s0 = 0 → V mX10_personIs d b 17 [some (.ref 0), some (.int l1), some (.int l2)] [] SM im Q) : V mX10_personIs d b 14 [some (.ref 0), some (.int l1), some (.int l2)] [.int s0] SM im Q := by
  refine V.if_ne (tgt := 23) dX10_personIs_14 (by decide) (fun h => ?_) (fun h => ?_)
  · exact kt h
  · exact kf h
theorem bX10_personIs_17 {d : Nat} {b : Nat × Nat}  {im : XI} {Q : Option Value → XS → XI → Prop} {l1 : Int32} {l2 : Int32} {P : Int32 → XI → Prop}  (hs : SpI mX10_error d [.ref 0, .int (1 : Int32)] SM im P) (k : ∀ x2 im2, P x2 im2 → V mX10_personIs (d + 1) b 22 [some (.ref 0), some (.int l1), some (.int l2)] [.int x2] SM im2 Q) : V mX10_personIs (d + 1) b 17 [some (.ref 0), some (.int l1), some (.int l2)] [] SM im Q := by
  refine V.aload_n dX10_personIs_17 rfl rfl ?_
  refine V.iconst (v := 1) dX10_personIs_18 (by decide) ?_
  refine V.cVI rfl vX10_error lkX10_51 wX10_error (ci := 10) rfl (by rfl) (As := [.int (1 : Int32)]) rfl rfl rfl dX10_personIs_19 hs (fun x2 im2 h2 => ?_)
  exact k x2 im2 h2
theorem bX10_personIs_22 {d : Nat} {b : Nat × Nat}  {im : XI} {Q : Option Value → XS → XI → Prop} {l1 : Int32} {l2 : Int32} {s0 : Int32}  (hq : Q (some (.int s0)) SM im) : V mX10_personIs d b 22 [some (.ref 0), some (.int l1), some (.int l2)] [.int s0] SM im Q := by
  exact V.iret rfl dX10_personIs_22 hq
theorem bX10_personIs_23 {d : Nat} {b : Nat × Nat}  {im : XI} {Q : Option Value → XS → XI → Prop} {l1 : Int32} {l2 : Int32}  (kt : (4 : Int32) ≤ l2 → V mX10_personIs d b 37 [some (.ref 0), some (.int l1), some (.int l2)] [] SM im Q) (kf : ¬ (4 : Int32) ≤ l2 → V mX10_personIs d b 28 [some (.ref 0), some (.int l1), some (.int l2)] [] SM im Q) : V mX10_personIs d b 23 [some (.ref 0), some (.int l1), some (.int l2)] [] SM im Q := by
  refine V.iload_n dX10_personIs_23 rfl rfl ?_
  refine V.iconst (v := 4) dX10_personIs_24 (by decide) ?_
  refine V.icmp_ge (tgt := 37) dX10_personIs_25 (by decide) (fun h => ?_) (fun h => ?_)
  · exact kt h
  · exact kf h
theorem bX10_personIs_28 {d : Nat} {b : Nat × Nat}  {im : XI} {Q : Option Value → XS → XI → Prop} {l1 : Int32} {l2 : Int32} {P : Int32 → XI → Prop}  (hs : SpI mX10_its d [.ref 0, .int l1, .int l2] SM im P) (k : ∀ x2 im2, P x2 im2 → V mX10_personIs (d + 1) b 34 [some (.ref 0), some (.int l1), some (.int l2)] [.int x2] SM im2 Q) : V mX10_personIs (d + 1) b 28 [some (.ref 0), some (.int l1), some (.int l2)] [] SM im Q := by
  refine V.aload_n dX10_personIs_28 rfl rfl ?_
  refine V.iload_n dX10_personIs_29 rfl rfl ?_
  refine V.iload_n dX10_personIs_30 rfl rfl ?_
  refine V.cVI rfl vX10_its lkX10_111 wX10_its (ci := 10) rfl (by rfl) (As := [.int l1, .int l2]) rfl rfl rfl dX10_personIs_31 hs (fun x2 im2 h2 => ?_)
  exact k x2 im2 h2
theorem bX10_personIs_34 {d : Nat} {b : Nat × Nat}  {im : XI} {Q : Option Value → XS → XI → Prop} {l1 : Int32} {l2 : Int32} {s0 : Int32}  (k : V mX10_personIs d b 42 [some (.ref 0), some (.int l1), some (.int l2)] [.int s0] SM im Q) : V mX10_personIs d b 34 [some (.ref 0), some (.int l1), some (.int l2)] [.int s0] SM im Q := by
  refine V.goto (tgt := 42) dX10_personIs_34 (by decide) ?_
  exact k
theorem bX10_personIs_37 {d : Nat} {b : Nat × Nat}  {im : XI} {Q : Option Value → XS → XI → Prop} {l1 : Int32} {l2 : Int32} {P : Int32 → XI → Prop}  (hs : SpI mX10_shutOf d [.ref 0, .int l1] SM im P) (k : ∀ x2 im2, P x2 im2 → V mX10_personIs (d + 1) b 42 [some (.ref 0), some (.int l1), some (.int l2)] [.int x2] SM im2 Q) : V mX10_personIs (d + 1) b 37 [some (.ref 0), some (.int l1), some (.int l2)] [] SM im Q := by
  refine V.aload_n dX10_personIs_37 rfl rfl ?_
  refine V.iload_n dX10_personIs_38 rfl rfl ?_
  refine V.cVI rfl vX10_shutOf lkX10_127 wX10_shutOf (ci := 10) rfl (by rfl) (As := [.int l1]) rfl rfl rfl dX10_personIs_39 hs (fun x2 im2 h2 => ?_)
  exact k x2 im2 h2
theorem bX10_personIs_42 {d : Nat} {b : Nat × Nat}  {im : XI} {Q : Option Value → XS → XI → Prop} {l1 : Int32} {l2 : Int32} {s0 : Int32}  (hq : Q (some (.int s0)) SM im) : V mX10_personIs d b 42 [some (.ref 0), some (.int l1), some (.int l2)] [.int s0] SM im Q := by
  exact V.iret rfl dX10_personIs_42 hq
theorem bX10_become_0 {d : Nat} {b : Nat × Nat}  {im : XI} {Q : Option Value → XS → XI → Prop} {l1 : Int32} {l2 : Int32} {P : Int32 → XI → Prop}  (hs : SpI mX10_isPerson d [.ref 0, .int l1] SM im P) (k : ∀ x2 im2, P x2 im2 → V mX10_become (d + 1) b 5 [some (.ref 0), some (.int l1), some (.int l2)] [.int x2] SM im2 Q) : V mX10_become (d + 1) b 0 [some (.ref 0), some (.int l1), some (.int l2)] [] SM im Q := by
  refine V.aload_n dX10_become_0 rfl rfl ?_
  refine V.iload_n dX10_become_1 rfl rfl ?_
  refine V.cVI rfl vX10_isPerson lkX10_166 wX10_isPerson (ci := 10) rfl (by rfl) (As := [.int l1]) rfl rfl rfl dX10_become_2 hs (fun x2 im2 h2 => ?_)
  exact k x2 im2 h2
theorem bX10_become_5 {d : Nat} {b : Nat × Nat}  {im : XI} {Q : Option Value → XS → XI → Prop} {l1 : Int32} {l2 : Int32} {s0 : Int32}  (kt : s0 = 0 → V mX10_become d b 15 [some (.ref 0), some (.int l1), some (.int l2)] [] SM im Q) (kf : ¬ s0 = 0 → V mX10_become d b 8 [some (.ref 0), some (.int l1), some (.int l2)] [] SM im Q) : V mX10_become d b 5 [some (.ref 0), some (.int l1), some (.int l2)] [.int s0] SM im Q := by
  refine V.if_eq (tgt := 15) dX10_become_5 (by decide) (fun h => ?_) (fun h => ?_)
  · exact kt h
  · exact kf h
theorem bX10_become_8 {d : Nat} {b : Nat × Nat}  {im : XI} {Q : Option Value → XS → XI → Prop} {l1 : Int32} {l2 : Int32} {P : Int32 → XI → Prop}  (hs : SpI mX10_isKind d [.int l2] SM im P) (k : ∀ x2 im2, P x2 im2 → V mX10_become (d + 1) b 12 [some (.ref 0), some (.int l1), some (.int l2)] [.int x2] SM im2 Q) : V mX10_become (d + 1) b 8 [some (.ref 0), some (.int l1), some (.int l2)] [] SM im Q := by
  refine V.iload_n dX10_become_8 rfl rfl ?_
  refine V.cSI rfl vX10_isKind lkX10_157 sX10_isKind (As := [.int l2]) rfl rfl rfl dX10_become_9 hs (fun x2 im2 h2 => ?_)
  exact k x2 im2 h2
theorem bX10_become_12 {d : Nat} {b : Nat × Nat}  {im : XI} {Q : Option Value → XS → XI → Prop} {l1 : Int32} {l2 : Int32} {s0 : Int32}  (kt : ¬ s0 = 0 → V mX10_become d b 21 [some (.ref 0), some (.int l1), some (.int l2)] [] SM im Q) (kf : s0 = 0 → V mX10_become d b 15 [some (.ref 0), some (.int l1), some (.int l2)] [] SM im Q) : V mX10_become d b 12 [some (.ref 0), some (.int l1), some (.int l2)] [.int s0] SM im Q := by
  refine V.if_ne (tgt := 21) dX10_become_12 (by decide) (fun h => ?_) (fun h => ?_)
  · exact kt h
  · exact kf h
theorem bX10_become_15 {d : Nat} {b : Nat × Nat}  {im : XI} {Q : Option Value → XS → XI → Prop} {l1 : Int32} {l2 : Int32} {P : Int32 → XI → Prop}  (hs : SpI mX10_error d [.ref 0, .int (1 : Int32)] SM im P) (k : ∀ x2 im2, P x2 im2 → V mX10_become (d + 1) b 20 [some (.ref 0), some (.int l1), some (.int l2)] [.int x2] SM im2 Q) : V mX10_become (d + 1) b 15 [some (.ref 0), some (.int l1), some (.int l2)] [] SM im Q := by
  refine V.aload_n dX10_become_15 rfl rfl ?_
  refine V.iconst (v := 1) dX10_become_16 (by decide) ?_
  refine V.cVI rfl vX10_error lkX10_51 wX10_error (ci := 10) rfl (by rfl) (As := [.int (1 : Int32)]) rfl rfl rfl dX10_become_17 hs (fun x2 im2 h2 => ?_)
  exact k x2 im2 h2
theorem bX10_become_20 {d : Nat} {b : Nat × Nat}  {im : XI} {Q : Option Value → XS → XI → Prop} {l1 : Int32} {l2 : Int32} {s0 : Int32}  (hq : Q (some (.int s0)) SM im) : V mX10_become d b 20 [some (.ref 0), some (.int l1), some (.int l2)] [.int s0] SM im Q := by
  exact V.iret rfl dX10_become_20 hq
theorem bX10_become_21 {d : Nat} {b : Nat × Nat}  {im : XI} {Q : Option Value → XS → XI → Prop} {l1 : Int32} {l2 : Int32} {P : XI → Prop}  (hs : SpV mX10_lays1 d [.ref 0, .int l1, .int (1 : Int32), .int (l2 - l2 / (10 : Int32) * (10 : Int32))] SM im P) (k : ∀ im2, P im2 → V mX10_become (d + 1) b 31 [some (.ref 0), some (.int l1), some (.int l2)] [] SM im2 Q) : V mX10_become (d + 1) b 21 [some (.ref 0), some (.int l1), some (.int l2)] [] SM im Q := by
  refine V.aload_n dX10_become_21 rfl rfl ?_
  refine V.iload_n dX10_become_22 rfl rfl ?_
  refine V.iconst (v := 1) dX10_become_23 (by decide) ?_
  refine V.iload_n dX10_become_24 rfl rfl ?_
  refine V.bipush (v := 10) dX10_become_25 (by decide) ?_
  refine V.irem dX10_become_27 (by decide) ?_
  refine V.cVV rfl vX10_lays1 lkX10_163 wX10_lays1 (ci := 10) rfl (by rfl) (As := [.int l1, .int (1 : Int32), .int (l2 - l2 / (10 : Int32) * (10 : Int32))]) rfl rfl rfl dX10_become_28 hs (fun im2 h2 => ?_)
  exact k im2 h2
theorem bX10_become_31 {d : Nat} {b : Nat × Nat}  {im : XI} {Q : Option Value → XS → XI → Prop} {l1 : Int32} {l2 : Int32} {P : Int32 → XI → Prop}  (hs : SpI mX10_change1 d [.ref 0, .int (((8 : Int32) + ((4 : Int32) * l1)) + (0 : Int32)), .int (l2 / (10 : Int32))] SM im P) (k : ∀ x2 im2, P x2 im2 → V mX10_become (d + 1) b 47 [some (.ref 0), some (.int l1), some (.int l2)] [.int x2] SM im2 Q) : V mX10_become (d + 1) b 31 [some (.ref 0), some (.int l1), some (.int l2)] [] SM im Q := by
  refine V.aload_n dX10_become_31 rfl rfl ?_
  refine V.bipush (v := 8) dX10_become_32 (by decide) ?_
  refine V.iconst (v := 4) dX10_become_34 (by decide) ?_
  refine V.iload_n dX10_become_35 rfl rfl ?_
  refine V.imul dX10_become_36 ?_
  refine V.iadd dX10_become_37 ?_
  refine V.iconst (v := 0) dX10_become_38 (by decide) ?_
  refine V.iadd dX10_become_39 ?_
  refine V.iload_n dX10_become_40 rfl rfl ?_
  refine V.bipush (v := 10) dX10_become_41 (by decide) ?_
  refine V.idiv dX10_become_43 (by decide) ?_
  refine V.cVI rfl vX10_change1 lkX10_169 wX10_change1 (ci := 10) rfl (by rfl) (As := [.int (((8 : Int32) + ((4 : Int32) * l1)) + (0 : Int32)), .int (l2 / (10 : Int32))]) rfl rfl rfl dX10_become_44 hs (fun x2 im2 h2 => ?_)
  exact k x2 im2 h2
theorem bX10_become_47 {d : Nat} {b : Nat × Nat}  {im : XI} {Q : Option Value → XS → XI → Prop} {l1 : Int32} {l2 : Int32} {s0 : Int32}  (hq : Q (some (.int s0)) SM im) : V mX10_become d b 47 [some (.ref 0), some (.int l1), some (.int l2)] [.int s0] SM im Q := by
  exact V.iret rfl dX10_become_47 hq
theorem bX10_as_0 {d : Nat} {b : Nat × Nat}  {im : XI} {Q : Option Value → XS → XI → Prop} {l1 : Int32} {l2 : Int32} {P : Int32 → XI → Prop}  (hs : SpI mX10_isPerson d [.ref 0, .int l1] SM im P) (k : ∀ x2 im2, P x2 im2 → V mX10_as (d + 1) b 5 [some (.ref 0), some (.int l1), some (.int l2), none] [.int x2] SM im2 Q) : V mX10_as (d + 1) b 0 [some (.ref 0), some (.int l1), some (.int l2), none] [] SM im Q := by
  refine V.aload_n dX10_as_0 rfl rfl ?_
  refine V.iload_n dX10_as_1 rfl rfl ?_
  refine V.cVI rfl vX10_isPerson lkX10_166 wX10_isPerson (ci := 10) rfl (by rfl) (As := [.int l1]) rfl rfl rfl dX10_as_2 hs (fun x2 im2 h2 => ?_)
  exact k x2 im2 h2
theorem bX10_as_5 {d : Nat} {b : Nat × Nat}  {im : XI} {Q : Option Value → XS → XI → Prop} {l1 : Int32} {l2 : Int32} {s0 : Int32}  (kt : s0 = 0 → V mX10_as d b 18 [some (.ref 0), some (.int l1), some (.int l2), none] [] SM im Q) (kf : ¬ s0 = 0 → V mX10_as d b 8 [some (.ref 0), some (.int l1), some (.int l2), none] [] SM im Q) : V mX10_as d b 5 [some (.ref 0), some (.int l1), some (.int l2), none] [.int s0] SM im Q := by
  refine V.if_eq (tgt := 18) dX10_as_5 (by decide) (fun h => ?_) (fun h => ?_)
  · exact kt h
  · exact kf h
theorem bX10_as_8 {d : Nat} {b : Nat × Nat}  {im : XI} {Q : Option Value → XS → XI → Prop} {l1 : Int32} {l2 : Int32} {P : Int32 → XI → Prop}  (hs : SpI mX10_in d [.int l2, .int (0 : Int32), .int (6 : Int32)] SM im P) (k : ∀ x2 im2, P x2 im2 → V mX10_as (d + 1) b 15 [some (.ref 0), some (.int l1), some (.int l2), none] [.int x2] SM im2 Q) : V mX10_as (d + 1) b 8 [some (.ref 0), some (.int l1), some (.int l2), none] [] SM im Q := by
  refine V.iload_n dX10_as_8 rfl rfl ?_
  refine V.iconst (v := 0) dX10_as_9 (by decide) ?_
  refine V.bipush (v := 6) dX10_as_10 (by decide) ?_
  refine V.cSI rfl vX10_in lkX10_47 sX10_in (As := [.int l2, .int (0 : Int32), .int (6 : Int32)]) rfl rfl rfl dX10_as_12 hs (fun x2 im2 h2 => ?_)
  exact k x2 im2 h2
theorem bX10_as_15 {d : Nat} {b : Nat × Nat}  {im : XI} {Q : Option Value → XS → XI → Prop} {l1 : Int32} {l2 : Int32} {s0 : Int32}  (kt : ¬ s0 = 0 → V mX10_as d b 24 [some (.ref 0), some (.int l1), some (.int l2), none] [] SM im Q) (kf : s0 = 0 → V mX10_as d b 18 [some (.ref 0), some (.int l1), some (.int l2), none] [] SM im Q) : V mX10_as d b 15 [some (.ref 0), some (.int l1), some (.int l2), none] [.int s0] SM im Q := by
  refine V.if_ne (tgt := 24) dX10_as_15 (by decide) (fun h => ?_) (fun h => ?_)
  · exact kt h
  · exact kf h
theorem bX10_as_18 {d : Nat} {b : Nat × Nat}  {im : XI} {Q : Option Value → XS → XI → Prop} {l1 : Int32} {l2 : Int32} {P : Int32 → XI → Prop}  (hs : SpI mX10_error d [.ref 0, .int (1 : Int32)] SM im P) (k : ∀ x2 im2, P x2 im2 → V mX10_as (d + 1) b 23 [some (.ref 0), some (.int l1), some (.int l2), none] [.int x2] SM im2 Q) : V mX10_as (d + 1) b 18 [some (.ref 0), some (.int l1), some (.int l2), none] [] SM im Q := by
  refine V.aload_n dX10_as_18 rfl rfl ?_
  refine V.iconst (v := 1) dX10_as_19 (by decide) ?_
  refine V.cVI rfl vX10_error lkX10_51 wX10_error (ci := 10) rfl (by rfl) (As := [.int (1 : Int32)]) rfl rfl rfl dX10_as_20 hs (fun x2 im2 h2 => ?_)
  exact k x2 im2 h2
theorem bX10_as_23 {d : Nat} {b : Nat × Nat}  {im : XI} {Q : Option Value → XS → XI → Prop} {l1 : Int32} {l2 : Int32} {s0 : Int32}  (hq : Q (some (.int s0)) SM im) : V mX10_as d b 23 [some (.ref 0), some (.int l1), some (.int l2), none] [.int s0] SM im Q := by
  exact V.iret rfl dX10_as_23 hq
theorem bX10_as_24 {d : Nat} {b : Nat × Nat}  {im : XI} {Q : Option Value → XS → XI → Prop} {l1 : Int32} {l2 : Int32} {P : Int32 → XI → Prop}  (hs : SpI mX10_its d [.ref 0, .int l1, .int (0 : Int32)] SM im P) (k : ∀ x2 im2, P x2 im2 → V mX10_as (d + 1) b 30 [some (.ref 0), some (.int l1), some (.int l2), none] [.int x2] SM im2 Q) : V mX10_as (d + 1) b 24 [some (.ref 0), some (.int l1), some (.int l2), none] [] SM im Q := by
  refine V.aload_n dX10_as_24 rfl rfl ?_
  refine V.iload_n dX10_as_25 rfl rfl ?_
  refine V.iconst (v := 0) dX10_as_26 (by decide) ?_
  refine V.cVI rfl vX10_its lkX10_111 wX10_its (ci := 10) rfl (by rfl) (As := [.int l1, .int (0 : Int32)]) rfl rfl rfl dX10_as_27 hs (fun x2 im2 h2 => ?_)
  exact k x2 im2 h2
theorem bX10_as_30 {d : Nat} {b : Nat × Nat}  {im : XI} {Q : Option Value → XS → XI → Prop} {l1 : Int32} {l2 : Int32} {s0 : Int32}  (k : V mX10_as d b 31 [some (.ref 0), some (.int l1), some (.int l2), some (.int s0)] [] SM im Q) : V mX10_as d b 30 [some (.ref 0), some (.int l1), some (.int l2), none] [.int s0] SM im Q := by
  refine V.istore_n dX10_as_30 rfl rfl rfl ?_
  exact k
theorem bX10_as_31 {d : Nat} {b : Nat × Nat}  {im : XI} {Q : Option Value → XS → XI → Prop} {l1 : Int32} {l2 : Int32} {l3 : Int32}  (kt : l3 = l2 → V mX10_as d b 48 [some (.ref 0), some (.int l1), some (.int l2), some (.int l3)] [] SM im Q) (kf : ¬ l3 = l2 → V mX10_as d b 36 [some (.ref 0), some (.int l1), some (.int l2), some (.int l3)] [] SM im Q) : V mX10_as d b 31 [some (.ref 0), some (.int l1), some (.int l2), some (.int l3)] [] SM im Q := by
  refine V.iload_n dX10_as_31 rfl rfl ?_
  refine V.iload_n dX10_as_32 rfl rfl ?_
  refine V.icmp_eq (tgt := 48) dX10_as_33 (by decide) (fun h => ?_) (fun h => ?_)
  · exact kt h
  · exact kf h
theorem bX10_as_36 {d : Nat} {b : Nat × Nat}  {im : XI} {Q : Option Value → XS → XI → Prop} {l1 : Int32} {l2 : Int32} {l3 : Int32}  (kt : l3 = 0 → V mX10_as d b 48 [some (.ref 0), some (.int l1), some (.int l2), some (.int l3)] [] SM im Q) (kf : ¬ l3 = 0 → V mX10_as d b 40 [some (.ref 0), some (.int l1), some (.int l2), some (.int l3)] [] SM im Q) : V mX10_as d b 36 [some (.ref 0), some (.int l1), some (.int l2), some (.int l3)] [] SM im Q := by
  refine V.iload_n dX10_as_36 rfl rfl ?_
  refine V.if_eq (tgt := 48) dX10_as_37 (by decide) (fun h => ?_) (fun h => ?_)
  · exact kt h
  · exact kf h
theorem bX10_as_40 {d : Nat} {b : Nat × Nat}  {im : XI} {Q : Option Value → XS → XI → Prop} {l1 : Int32} {l2 : Int32} {l3 : Int32} {P : Int32 → XI → Prop}  (hs : SpI mX10_above d [.int l3] SM im P) (k : ∀ x2 im2, P x2 im2 → V mX10_as (d + 1) b 44 [some (.ref 0), some (.int l1), some (.int l2), some (.int l3)] [.int x2] SM im2 Q) : V mX10_as (d + 1) b 40 [some (.ref 0), some (.int l1), some (.int l2), some (.int l3)] [] SM im Q := by
  refine V.iload_n dX10_as_40 rfl rfl ?_
  refine V.cSI rfl vX10_above lkX10_172 sX10_above (As := [.int l3]) rfl rfl rfl dX10_as_41 hs (fun x2 im2 h2 => ?_)
  exact k x2 im2 h2
theorem bX10_as_44 {d : Nat} {b : Nat × Nat}  {im : XI} {Q : Option Value → XS → XI → Prop} {l1 : Int32} {l2 : Int32} {l3 : Int32} {s0 : Int32}  (k : V mX10_as d b 31 [some (.ref 0), some (.int l1), some (.int l2), some (.int s0)] [] SM im Q) : V mX10_as d b 44 [some (.ref 0), some (.int l1), some (.int l2), some (.int l3)] [.int s0] SM im Q := by
  refine V.istore_n dX10_as_44 rfl rfl rfl ?_
  refine V.goto (tgt := 31) dX10_as_45 (by decide) ?_
  exact k
theorem bX10_as_48 {d : Nat} {b : Nat × Nat}  {im : XI} {Q : Option Value → XS → XI → Prop} {l1 : Int32} {l2 : Int32} {l3 : Int32}  (kt : ¬ l3 = l2 → V mX10_as d b 62 [some (.ref 0), some (.int l1), some (.int l2), some (.int l3)] [] SM im Q) (kf : l3 = l2 → V mX10_as d b 53 [some (.ref 0), some (.int l1), some (.int l2), some (.int l3)] [] SM im Q) : V mX10_as d b 48 [some (.ref 0), some (.int l1), some (.int l2), some (.int l3)] [] SM im Q := by
  refine V.iload_n dX10_as_48 rfl rfl ?_
  refine V.iload_n dX10_as_49 rfl rfl ?_
  refine V.icmp_ne (tgt := 62) dX10_as_50 (by decide) (fun h => ?_) (fun h => ?_)
  · exact kt h
  · exact kf h
theorem bX10_as_53 {d : Nat} {b : Nat × Nat}  {im : XI} {Q : Option Value → XS → XI → Prop} {l1 : Int32} {l2 : Int32} {l3 : Int32} {P : Int32 → XI → Prop}  (hs : SpI mX10_its d [.ref 0, .int l1, .int (1 : Int32)] SM im P) (k : ∀ x2 im2, P x2 im2 → V mX10_as (d + 1) b 59 [some (.ref 0), some (.int l1), some (.int l2), some (.int l3)] [.int x2] SM im2 Q) : V mX10_as (d + 1) b 53 [some (.ref 0), some (.int l1), some (.int l2), some (.int l3)] [] SM im Q := by
  refine V.aload_n dX10_as_53 rfl rfl ?_
  refine V.iload_n dX10_as_54 rfl rfl ?_
  refine V.iconst (v := 1) dX10_as_55 (by decide) ?_
  refine V.cVI rfl vX10_its lkX10_111 wX10_its (ci := 10) rfl (by rfl) (As := [.int l1, .int (1 : Int32)]) rfl rfl rfl dX10_as_56 hs (fun x2 im2 h2 => ?_)
  exact k x2 im2 h2
theorem bX10_as_59 {d : Nat} {b : Nat × Nat}  {im : XI} {Q : Option Value → XS → XI → Prop} {l1 : Int32} {l2 : Int32} {l3 : Int32} {s0 : Int32}  (k : V mX10_as d b 67 [some (.ref 0), some (.int l1), some (.int l2), some (.int l3)] [.int s0] SM im Q) : V mX10_as d b 59 [some (.ref 0), some (.int l1), some (.int l2), some (.int l3)] [.int s0] SM im Q := by
  refine V.goto (tgt := 67) dX10_as_59 (by decide) ?_
  exact k
theorem bX10_as_62 {d : Nat} {b : Nat × Nat}  {im : XI} {Q : Option Value → XS → XI → Prop} {l1 : Int32} {l2 : Int32} {l3 : Int32} {P : Int32 → XI → Prop}  (hs : SpI mX10_error d [.ref 0, .int (5 : Int32)] SM im P) (k : ∀ x2 im2, P x2 im2 → V mX10_as (d + 1) b 67 [some (.ref 0), some (.int l1), some (.int l2), some (.int l3)] [.int x2] SM im2 Q) : V mX10_as (d + 1) b 62 [some (.ref 0), some (.int l1), some (.int l2), some (.int l3)] [] SM im Q := by
  refine V.aload_n dX10_as_62 rfl rfl ?_
  refine V.iconst (v := 5) dX10_as_63 (by decide) ?_
  refine V.cVI rfl vX10_error lkX10_51 wX10_error (ci := 10) rfl (by rfl) (As := [.int (5 : Int32)]) rfl rfl rfl dX10_as_64 hs (fun x2 im2 h2 => ?_)
  exact k x2 im2 h2
theorem bX10_as_67 {d : Nat} {b : Nat × Nat}  {im : XI} {Q : Option Value → XS → XI → Prop} {l1 : Int32} {l2 : Int32} {l3 : Int32} {s0 : Int32}  (hq : Q (some (.int s0)) SM im) : V mX10_as d b 67 [some (.ref 0), some (.int l1), some (.int l2), some (.int l3)] [.int s0] SM im Q := by
  exact V.iret rfl dX10_as_67 hq
theorem bX10_beats_0 {d : Nat} {b : Nat × Nat}  {im : XI} {Q : Option Value → XS → XI → Prop} {l1 : Int32} {l2 : Int32} {l3 : Int32} {P : Int32 → XI → Prop}  (hs : SpI mX10_isPerson d [.ref 0, .int l1] SM im P) (k : ∀ x2 im2, P x2 im2 → V mX10_beats (d + 1) b 5 [some (.ref 0), some (.int l1), some (.int l2), some (.int l3)] [.int x2] SM im2 Q) : V mX10_beats (d + 1) b 0 [some (.ref 0), some (.int l1), some (.int l2), some (.int l3)] [] SM im Q := by
  refine V.aload_n dX10_beats_0 rfl rfl ?_
  refine V.iload_n dX10_beats_1 rfl rfl ?_
  refine V.cVI rfl vX10_isPerson lkX10_166 wX10_isPerson (ci := 10) rfl (by rfl) (As := [.int l1]) rfl rfl rfl dX10_beats_2 hs (fun x2 im2 h2 => ?_)
  exact k x2 im2 h2
theorem bX10_beats_5 {d : Nat} {b : Nat × Nat}  {im : XI} {Q : Option Value → XS → XI → Prop} {l1 : Int32} {l2 : Int32} {l3 : Int32} {s0 : Int32}  (kt : s0 = 0 → V mX10_beats d b 16 [some (.ref 0), some (.int l1), some (.int l2), some (.int l3)] [] SM im Q) (kf : ¬ s0 = 0 → V mX10_beats d b 8 [some (.ref 0), some (.int l1), some (.int l2), some (.int l3)] [] SM im Q) : V mX10_beats d b 5 [some (.ref 0), some (.int l1), some (.int l2), some (.int l3)] [.int s0] SM im Q := by
  refine V.if_eq (tgt := 16) dX10_beats_5 (by decide) (fun h => ?_) (fun h => ?_)
  · exact kt h
  · exact kf h
theorem bX10_beats_8 {d : Nat} {b : Nat × Nat}  {im : XI} {Q : Option Value → XS → XI → Prop} {l1 : Int32} {l2 : Int32} {l3 : Int32} {P : Int32 → XI → Prop}  (hs : SpI mX10_isBeat d [.int l2, .int l3] SM im P) (k : ∀ x2 im2, P x2 im2 → V mX10_beats (d + 1) b 13 [some (.ref 0), some (.int l1), some (.int l2), some (.int l3)] [.int x2] SM im2 Q) : V mX10_beats (d + 1) b 8 [some (.ref 0), some (.int l1), some (.int l2), some (.int l3)] [] SM im Q := by
  refine V.iload_n dX10_beats_8 rfl rfl ?_
  refine V.iload_n dX10_beats_9 rfl rfl ?_
  refine V.cSI rfl vX10_isBeat lkX10_160 sX10_isBeat (As := [.int l2, .int l3]) rfl rfl rfl dX10_beats_10 hs (fun x2 im2 h2 => ?_)
  exact k x2 im2 h2
theorem bX10_beats_13 {d : Nat} {b : Nat × Nat}  {im : XI} {Q : Option Value → XS → XI → Prop} {l1 : Int32} {l2 : Int32} {l3 : Int32} {s0 : Int32}  (kt : ¬ s0 = 0 → V mX10_beats d b 22 [some (.ref 0), some (.int l1), some (.int l2), some (.int l3)] [] SM im Q) (kf : s0 = 0 → V mX10_beats d b 16 [some (.ref 0), some (.int l1), some (.int l2), some (.int l3)] [] SM im Q) : V mX10_beats d b 13 [some (.ref 0), some (.int l1), some (.int l2), some (.int l3)] [.int s0] SM im Q := by
  refine V.if_ne (tgt := 22) dX10_beats_13 (by decide) (fun h => ?_) (fun h => ?_)
  · exact kt h
  · exact kf h
theorem bX10_beats_16 {d : Nat} {b : Nat × Nat}  {im : XI} {Q : Option Value → XS → XI → Prop} {l1 : Int32} {l2 : Int32} {l3 : Int32} {P : Int32 → XI → Prop}  (hs : SpI mX10_error d [.ref 0, .int (1 : Int32)] SM im P) (k : ∀ x2 im2, P x2 im2 → V mX10_beats (d + 1) b 21 [some (.ref 0), some (.int l1), some (.int l2), some (.int l3)] [.int x2] SM im2 Q) : V mX10_beats (d + 1) b 16 [some (.ref 0), some (.int l1), some (.int l2), some (.int l3)] [] SM im Q := by
  refine V.aload_n dX10_beats_16 rfl rfl ?_
  refine V.iconst (v := 1) dX10_beats_17 (by decide) ?_
  refine V.cVI rfl vX10_error lkX10_51 wX10_error (ci := 10) rfl (by rfl) (As := [.int (1 : Int32)]) rfl rfl rfl dX10_beats_18 hs (fun x2 im2 h2 => ?_)
  exact k x2 im2 h2
theorem bX10_beats_21 {d : Nat} {b : Nat × Nat}  {im : XI} {Q : Option Value → XS → XI → Prop} {l1 : Int32} {l2 : Int32} {l3 : Int32} {s0 : Int32}  (hq : Q (some (.int s0)) SM im) : V mX10_beats d b 21 [some (.ref 0), some (.int l1), some (.int l2), some (.int l3)] [.int s0] SM im Q := by
  exact V.iret rfl dX10_beats_21 hq
theorem bX10_beats_22 {d : Nat} {b : Nat × Nat}  {im : XI} {Q : Option Value → XS → XI → Prop} {l1 : Int32} {l2 : Int32} {l3 : Int32} {P : XI → Prop}  (hs : SpV mX10_lays1 d [.ref 0, .int l1, .int (3 : Int32), .int l3] SM im P) (k : ∀ im2, P im2 → V mX10_beats (d + 1) b 29 [some (.ref 0), some (.int l1), some (.int l2), some (.int l3)] [] SM im2 Q) : V mX10_beats (d + 1) b 22 [some (.ref 0), some (.int l1), some (.int l2), some (.int l3)] [] SM im Q := by
  refine V.aload_n dX10_beats_22 rfl rfl ?_
  refine V.iload_n dX10_beats_23 rfl rfl ?_
  refine V.iconst (v := 3) dX10_beats_24 (by decide) ?_
  refine V.iload_n dX10_beats_25 rfl rfl ?_
  refine V.cVV rfl vX10_lays1 lkX10_163 wX10_lays1 (ci := 10) rfl (by rfl) (As := [.int l1, .int (3 : Int32), .int l3]) rfl rfl rfl dX10_beats_26 hs (fun im2 h2 => ?_)
  exact k im2 h2
theorem bX10_beats_29 {d : Nat} {b : Nat × Nat}  {im : XI} {Q : Option Value → XS → XI → Prop} {l1 : Int32} {l2 : Int32} {l3 : Int32} {P : Int32 → XI → Prop}  (hs : SpI mX10_change1 d [.ref 0, .int (((8 : Int32) + ((4 : Int32) * l1)) + (2 : Int32)), .int l2] SM im P) (k : ∀ x2 im2, P x2 im2 → V mX10_beats (d + 1) b 42 [some (.ref 0), some (.int l1), some (.int l2), some (.int l3)] [.int x2] SM im2 Q) : V mX10_beats (d + 1) b 29 [some (.ref 0), some (.int l1), some (.int l2), some (.int l3)] [] SM im Q := by
  refine V.aload_n dX10_beats_29 rfl rfl ?_
  refine V.bipush (v := 8) dX10_beats_30 (by decide) ?_
  refine V.iconst (v := 4) dX10_beats_32 (by decide) ?_
  refine V.iload_n dX10_beats_33 rfl rfl ?_
  refine V.imul dX10_beats_34 ?_
  refine V.iadd dX10_beats_35 ?_
  refine V.iconst (v := 2) dX10_beats_36 (by decide) ?_
  refine V.iadd dX10_beats_37 ?_
  refine V.iload_n dX10_beats_38 rfl rfl ?_
  refine V.cVI rfl vX10_change1 lkX10_169 wX10_change1 (ci := 10) rfl (by rfl) (As := [.int (((8 : Int32) + ((4 : Int32) * l1)) + (2 : Int32)), .int l2]) rfl rfl rfl dX10_beats_39 hs (fun x2 im2 h2 => ?_)
  exact k x2 im2 h2
theorem bX10_beats_42 {d : Nat} {b : Nat × Nat}  {im : XI} {Q : Option Value → XS → XI → Prop} {l1 : Int32} {l2 : Int32} {l3 : Int32} {s0 : Int32}  (hq : Q (some (.int s0)) SM im) : V mX10_beats d b 42 [some (.ref 0), some (.int l1), some (.int l2), some (.int l3)] [.int s0] SM im Q := by
  exact V.iret rfl dX10_beats_42 hq
theorem bX10_doing_0 {d : Nat} {b : Nat × Nat}  {im : XI} {Q : Option Value → XS → XI → Prop} {l1 : Int32} {l2 : Int32} {l3 : Int32} {P : Int32 → XI → Prop}  (hs : SpI mX10_isPerson d [.ref 0, .int l1] SM im P) (k : ∀ x2 im2, P x2 im2 → V mX10_doing (d + 1) b 5 [some (.ref 0), some (.int l1), some (.int l2), some (.int l3), none] [.int x2] SM im2 Q) : V mX10_doing (d + 1) b 0 [some (.ref 0), some (.int l1), some (.int l2), some (.int l3), none] [] SM im Q := by
  refine V.aload_n dX10_doing_0 rfl rfl ?_
  refine V.iload_n dX10_doing_1 rfl rfl ?_
  refine V.cVI rfl vX10_isPerson lkX10_166 wX10_isPerson (ci := 10) rfl (by rfl) (As := [.int l1]) rfl rfl rfl dX10_doing_2 hs (fun x2 im2 h2 => ?_)
  exact k x2 im2 h2
theorem bX10_doing_5 {d : Nat} {b : Nat × Nat}  {im : XI} {Q : Option Value → XS → XI → Prop} {l1 : Int32} {l2 : Int32} {l3 : Int32} {s0 : Int32}  (kt : s0 = 0 → V mX10_doing d b 35 [some (.ref 0), some (.int l1), some (.int l2), some (.int l3), none] [] SM im Q) (kf : ¬ s0 = 0 → V mX10_doing d b 8 [some (.ref 0), some (.int l1), some (.int l2), some (.int l3), none] [] SM im Q) : V mX10_doing d b 5 [some (.ref 0), some (.int l1), some (.int l2), some (.int l3), none] [.int s0] SM im Q := by
  refine V.if_eq (tgt := 35) dX10_doing_5 (by decide) (fun h => ?_) (fun h => ?_)
  · exact kt h
  · exact kf h
theorem bX10_doing_8 {d : Nat} {b : Nat × Nat}  {im : XI} {Q : Option Value → XS → XI → Prop} {l1 : Int32} {l2 : Int32} {l3 : Int32} {P : Int32 → XI → Prop}  (hs : SpI mX10_in d [.int l2, .int (0 : Int32), .int (99 : Int32)] SM im P) (k : ∀ x2 im2, P x2 im2 → V mX10_doing (d + 1) b 15 [some (.ref 0), some (.int l1), some (.int l2), some (.int l3), none] [.int x2] SM im2 Q) : V mX10_doing (d + 1) b 8 [some (.ref 0), some (.int l1), some (.int l2), some (.int l3), none] [] SM im Q := by
  refine V.iload_n dX10_doing_8 rfl rfl ?_
  refine V.iconst (v := 0) dX10_doing_9 (by decide) ?_
  refine V.bipush (v := 99) dX10_doing_10 (by decide) ?_
  refine V.cSI rfl vX10_in lkX10_47 sX10_in (As := [.int l2, .int (0 : Int32), .int (99 : Int32)]) rfl rfl rfl dX10_doing_12 hs (fun x2 im2 h2 => ?_)
  exact k x2 im2 h2
theorem bX10_doing_15 {d : Nat} {b : Nat × Nat}  {im : XI} {Q : Option Value → XS → XI → Prop} {l1 : Int32} {l2 : Int32} {l3 : Int32} {s0 : Int32}  (kt : s0 = 0 → V mX10_doing d b 35 [some (.ref 0), some (.int l1), some (.int l2), some (.int l3), none] [] SM im Q) (kf : ¬ s0 = 0 → V mX10_doing d b 18 [some (.ref 0), some (.int l1), some (.int l2), some (.int l3), none] [] SM im Q) : V mX10_doing d b 15 [some (.ref 0), some (.int l1), some (.int l2), some (.int l3), none] [.int s0] SM im Q := by
  refine V.if_eq (tgt := 35) dX10_doing_15 (by decide) (fun h => ?_) (fun h => ?_)
  · exact kt h
  · exact kf h
theorem bX10_doing_18 {d : Nat} {b : Nat × Nat}  {im : XI} {Q : Option Value → XS → XI → Prop} {l1 : Int32} {l2 : Int32} {l3 : Int32} {P : Int32 → XI → Prop}  (hs : SpI mX10_isSet d [.ref 0, .int l3] SM im P) (k : ∀ x2 im2, P x2 im2 → V mX10_doing (d + 1) b 23 [some (.ref 0), some (.int l1), some (.int l2), some (.int l3), none] [.int x2] SM im2 Q) : V mX10_doing (d + 1) b 18 [some (.ref 0), some (.int l1), some (.int l2), some (.int l3), none] [] SM im Q := by
  refine V.aload_n dX10_doing_18 rfl rfl ?_
  refine V.iload_n dX10_doing_19 rfl rfl ?_
  refine V.cVI rfl vX10_isSet lkX10_175 wX10_isSet (ci := 10) rfl (by rfl) (As := [.int l3]) rfl rfl rfl dX10_doing_20 hs (fun x2 im2 h2 => ?_)
  exact k x2 im2 h2
theorem bX10_doing_23 {d : Nat} {b : Nat × Nat}  {im : XI} {Q : Option Value → XS → XI → Prop} {l1 : Int32} {l2 : Int32} {l3 : Int32} {s0 : Int32}  (kt : s0 = 0 → V mX10_doing d b 35 [some (.ref 0), some (.int l1), some (.int l2), some (.int l3), none] [] SM im Q) (kf : ¬ s0 = 0 → V mX10_doing d b 26 [some (.ref 0), some (.int l1), some (.int l2), some (.int l3), none] [] SM im Q) : V mX10_doing d b 23 [some (.ref 0), some (.int l1), some (.int l2), some (.int l3), none] [.int s0] SM im Q := by
  refine V.if_eq (tgt := 35) dX10_doing_23 (by decide) (fun h => ?_) (fun h => ?_)
  · exact kt h
  · exact kf h
theorem bX10_doing_26 {d : Nat} {b : Nat × Nat}  {im : XI} {Q : Option Value → XS → XI → Prop} {l1 : Int32} {l2 : Int32} {l3 : Int32}  (kt : ¬ ((l3 >>> (l1 &&& 31)) &&& (1 : Int32)) = (1 : Int32) → V mX10_doing d b 41 [some (.ref 0), some (.int l1), some (.int l2), some (.int l3), none] [] SM im Q) (kf : ((l3 >>> (l1 &&& 31)) &&& (1 : Int32)) = (1 : Int32) → V mX10_doing d b 35 [some (.ref 0), some (.int l1), some (.int l2), some (.int l3), none] [] SM im Q) : V mX10_doing d b 26 [some (.ref 0), some (.int l1), some (.int l2), some (.int l3), none] [] SM im Q := by
  refine V.iload_n dX10_doing_26 rfl rfl ?_
  refine V.iload_n dX10_doing_27 rfl rfl ?_
  refine V.ishr dX10_doing_28 ?_
  refine V.iconst (v := 1) dX10_doing_29 (by decide) ?_
  refine V.iand dX10_doing_30 ?_
  refine V.iconst (v := 1) dX10_doing_31 (by decide) ?_
  refine V.icmp_ne (tgt := 41) dX10_doing_32 (by decide) (fun h => ?_) (fun h => ?_)
  · exact kt h
  · exact kf h
theorem bX10_doing_35 {d : Nat} {b : Nat × Nat}  {im : XI} {Q : Option Value → XS → XI → Prop} {l1 : Int32} {l2 : Int32} {l3 : Int32} {P : Int32 → XI → Prop}  (hs : SpI mX10_error d [.ref 0, .int (1 : Int32)] SM im P) (k : ∀ x2 im2, P x2 im2 → V mX10_doing (d + 1) b 40 [some (.ref 0), some (.int l1), some (.int l2), some (.int l3), none] [.int x2] SM im2 Q) : V mX10_doing (d + 1) b 35 [some (.ref 0), some (.int l1), some (.int l2), some (.int l3), none] [] SM im Q := by
  refine V.aload_n dX10_doing_35 rfl rfl ?_
  refine V.iconst (v := 1) dX10_doing_36 (by decide) ?_
  refine V.cVI rfl vX10_error lkX10_51 wX10_error (ci := 10) rfl (by rfl) (As := [.int (1 : Int32)]) rfl rfl rfl dX10_doing_37 hs (fun x2 im2 h2 => ?_)
  exact k x2 im2 h2
theorem bX10_doing_40 {d : Nat} {b : Nat × Nat}  {im : XI} {Q : Option Value → XS → XI → Prop} {l1 : Int32} {l2 : Int32} {l3 : Int32} {s0 : Int32}  (hq : Q (some (.int s0)) SM im) : V mX10_doing d b 40 [some (.ref 0), some (.int l1), some (.int l2), some (.int l3), none] [.int s0] SM im Q := by
  exact V.iret rfl dX10_doing_40 hq
theorem bX10_doing_41 {d : Nat} {b : Nat × Nat}  {im : XI} {Q : Option Value → XS → XI → Prop} {l1 : Int32} {l2 : Int32} {l3 : Int32}  (kt : ¬ (im 1 5) = (6 : Int32) → V mX10_doing d b 58 [some (.ref 0), some (.int l1), some (.int l2), some (.int l3), none] [] SM im Q) (kf : (im 1 5) = (6 : Int32) → V mX10_doing d b 52 [some (.ref 0), some (.int l1), some (.int l2), some (.int l3), none] [] SM im Q) : V mX10_doing d b 41 [some (.ref 0), some (.int l1), some (.int l2), some (.int l3), none] [] SM im Q := by
  refine V.aload_n dX10_doing_41 rfl rfl ?_
  refine V.getR fX10_7 rfl (by rfl) (by rfl) dX10_doing_42 ?_
  refine V.iconst (v := 5) dX10_doing_45 (by decide) ?_
  refine V.iald (i := 5) ⟨by rfl, by rfl⟩ (by rfl) (by decide) dX10_doing_46 ?_
  refine V.bipush (v := 6) dX10_doing_47 (by decide) ?_
  refine V.icmp_ne (tgt := 58) dX10_doing_49 (by decide) (fun h => ?_) (fun h => ?_)
  · exact kt h
  · exact kf h
theorem bX10_doing_52 {d : Nat} {b : Nat × Nat}  {im : XI} {Q : Option Value → XS → XI → Prop} {l1 : Int32} {l2 : Int32} {l3 : Int32} {P : Int32 → XI → Prop}  (hs : SpI mX10_error d [.ref 0, .int (4 : Int32)] SM im P) (k : ∀ x2 im2, P x2 im2 → V mX10_doing (d + 1) b 57 [some (.ref 0), some (.int l1), some (.int l2), some (.int l3), none] [.int x2] SM im2 Q) : V mX10_doing (d + 1) b 52 [some (.ref 0), some (.int l1), some (.int l2), some (.int l3), none] [] SM im Q := by
  refine V.aload_n dX10_doing_52 rfl rfl ?_
  refine V.iconst (v := 4) dX10_doing_53 (by decide) ?_
  refine V.cVI rfl vX10_error lkX10_51 wX10_error (ci := 10) rfl (by rfl) (As := [.int (4 : Int32)]) rfl rfl rfl dX10_doing_54 hs (fun x2 im2 h2 => ?_)
  exact k x2 im2 h2
theorem bX10_doing_57 {d : Nat} {b : Nat × Nat}  {im : XI} {Q : Option Value → XS → XI → Prop} {l1 : Int32} {l2 : Int32} {l3 : Int32} {s0 : Int32}  (hq : Q (some (.int s0)) SM im) : V mX10_doing d b 57 [some (.ref 0), some (.int l1), some (.int l2), some (.int l3), none] [.int s0] SM im Q := by
  exact V.iret rfl dX10_doing_57 hq
theorem bX10_doing_58 {d : Nat} {b : Nat × Nat}  {im : XI} {Q : Option Value → XS → XI → Prop} {l1 : Int32} {l2 : Int32} {l3 : Int32} {P : XI → Prop}  (hs : SpV mX10_laysDoing d [.ref 0, .int (im 1 5), .int (0 : Int32), .int l1] SM im P) (k : ∀ im2, P im2 → V mX10_doing (d + 1) b 74 [some (.ref 0), some (.int l1), some (.int l2), some (.int l3), some (.int (im 1 5))] [] SM im2 Q) : V mX10_doing (d + 1) b 58 [some (.ref 0), some (.int l1), some (.int l2), some (.int l3), none] [] SM im Q := by
  refine V.aload_n dX10_doing_58 rfl rfl ?_
  refine V.getR fX10_7 rfl (by rfl) (by rfl) dX10_doing_59 ?_
  refine V.iconst (v := 5) dX10_doing_62 (by decide) ?_
  refine V.iald (i := 5) ⟨by rfl, by rfl⟩ (by rfl) (by decide) dX10_doing_63 ?_
  refine V.istore dX10_doing_64 rfl rfl ?_
  refine V.aload_n dX10_doing_66 rfl rfl ?_
  refine V.iload dX10_doing_67 rfl ?_
  refine V.iconst (v := 0) dX10_doing_69 (by decide) ?_
  refine V.iload_n dX10_doing_70 rfl rfl ?_
  refine V.cVV rfl vX10_laysDoing lkX10_145 wX10_laysDoing (ci := 10) rfl (by rfl) (As := [.int (im 1 5), .int (0 : Int32), .int l1]) rfl rfl rfl dX10_doing_71 hs (fun im2 h2 => ?_)
  exact k im2 h2
theorem bX10_doing_74 {d : Nat} {b : Nat × Nat}  {im : XI} {Q : Option Value → XS → XI → Prop} {l1 : Int32} {l2 : Int32} {l3 : Int32} {l4 : Int32} {P : XI → Prop}  (hs : SpV mX10_laysDoing d [.ref 0, .int l4, .int (1 : Int32), .int l2] SM im P) (k : ∀ im2, P im2 → V mX10_doing (d + 1) b 82 [some (.ref 0), some (.int l1), some (.int l2), some (.int l3), some (.int l4)] [] SM im2 Q) : V mX10_doing (d + 1) b 74 [some (.ref 0), some (.int l1), some (.int l2), some (.int l3), some (.int l4)] [] SM im Q := by
  refine V.aload_n dX10_doing_74 rfl rfl ?_
  refine V.iload dX10_doing_75 rfl ?_
  refine V.iconst (v := 1) dX10_doing_77 (by decide) ?_
  refine V.iload_n dX10_doing_78 rfl rfl ?_
  refine V.cVV rfl vX10_laysDoing lkX10_145 wX10_laysDoing (ci := 10) rfl (by rfl) (As := [.int l4, .int (1 : Int32), .int l2]) rfl rfl rfl dX10_doing_79 hs (fun im2 h2 => ?_)
  exact k im2 h2
theorem bX10_doing_82 {d : Nat} {b : Nat × Nat}  {im : XI} {Q : Option Value → XS → XI → Prop} {l1 : Int32} {l2 : Int32} {l3 : Int32} {l4 : Int32} {P : XI → Prop}  (hs : SpV mX10_laysDoing d [.ref 0, .int l4, .int (2 : Int32), .int l3] SM im P) (k : ∀ im2, P im2 → V mX10_doing (d + 1) b 90 [some (.ref 0), some (.int l1), some (.int l2), some (.int l3), some (.int l4)] [] SM im2 Q) : V mX10_doing (d + 1) b 82 [some (.ref 0), some (.int l1), some (.int l2), some (.int l3), some (.int l4)] [] SM im Q := by
  refine V.aload_n dX10_doing_82 rfl rfl ?_
  refine V.iload dX10_doing_83 rfl ?_
  refine V.iconst (v := 2) dX10_doing_85 (by decide) ?_
  refine V.iload_n dX10_doing_86 rfl rfl ?_
  refine V.cVV rfl vX10_laysDoing lkX10_145 wX10_laysDoing (ci := 10) rfl (by rfl) (As := [.int l4, .int (2 : Int32), .int l3]) rfl rfl rfl dX10_doing_87 hs (fun im2 h2 => ?_)
  exact k im2 h2
theorem bX10_doing_90 {d : Nat} {b : Nat × Nat}  {im : XI} {Q : Option Value → XS → XI → Prop} {l1 : Int32} {l2 : Int32} {l3 : Int32} {l4 : Int32}  (hq : Q (some (.int l4)) SM (xup im 1 5 ((im 1 5) + (1 : Int32)))) : V mX10_doing d b 90 [some (.ref 0), some (.int l1), some (.int l2), some (.int l3), some (.int l4)] [] SM im Q := by
  refine V.aload_n dX10_doing_90 rfl rfl ?_
  refine V.getR fX10_7 rfl (by rfl) (by rfl) dX10_doing_91 ?_
  refine V.iconst (v := 5) dX10_doing_94 (by decide) ?_
  refine V.dup2 dX10_doing_95 rfl rfl ?_
  refine V.iald (i := 5) ⟨by rfl, by rfl⟩ (by rfl) (by decide) dX10_doing_96 ?_
  refine V.iconst (v := 1) dX10_doing_97 (by decide) ?_
  refine V.iadd dX10_doing_98 ?_
  refine V.iast (i := 5) ⟨by rfl, by rfl⟩ (by rfl) (by decide) dX10_doing_99 ?_
  refine V.iload dX10_doing_100 rfl ?_
  exact V.iret rfl dX10_doing_102 hq
theorem bX10_doingIs_0 {d : Nat} {b : Nat × Nat}  {im : XI} {Q : Option Value → XS → XI → Prop} {l1 : Int32} {l2 : Int32} {P : Int32 → XI → Prop}  (hs : SpI mX10_isDoing d [.ref 0, .int l1] SM im P) (k : ∀ x2 im2, P x2 im2 → V mX10_doingIs (d + 1) b 5 [some (.ref 0), some (.int l1), some (.int l2)] [.int x2] SM im2 Q) : V mX10_doingIs (d + 1) b 0 [some (.ref 0), some (.int l1), some (.int l2)] [] SM im Q := by
  refine V.aload_n dX10_doingIs_0 rfl rfl ?_
  refine V.iload_n dX10_doingIs_1 rfl rfl ?_
  refine V.cVI rfl vX10_isDoing lkX10_178 wX10_isDoing (ci := 10) rfl (by rfl) (As := [.int l1]) rfl rfl rfl dX10_doingIs_2 hs (fun x2 im2 h2 => ?_)
  exact k x2 im2 h2
theorem bX10_doingIs_5 {d : Nat} {b : Nat × Nat}  {im : XI} {Q : Option Value → XS → XI → Prop} {l1 : Int32} {l2 : Int32} {s0 : Int32}  (kt : s0 = 0 → V mX10_doingIs d b 17 [some (.ref 0), some (.int l1), some (.int l2)] [] SM im Q) (kf : ¬ s0 = 0 → V mX10_doingIs d b 8 [some (.ref 0), some (.int l1), some (.int l2)] [] SM im Q) : V mX10_doingIs d b 5 [some (.ref 0), some (.int l1), some (.int l2)] [.int s0] SM im Q := by
  refine V.if_eq (tgt := 17) dX10_doingIs_5 (by decide) (fun h => ?_) (fun h => ?_)
  · exact kt h
  · exact kf h
theorem bX10_doingIs_8 {d : Nat} {b : Nat × Nat}  {im : XI} {Q : Option Value → XS → XI → Prop} {l1 : Int32} {l2 : Int32} {P : Int32 → XI → Prop}  (hs : SpI mX10_in d [.int l2, .int (0 : Int32), .int (3 : Int32)] SM im P) (k : ∀ x2 im2, P x2 im2 → V mX10_doingIs (d + 1) b 14 [some (.ref 0), some (.int l1), some (.int l2)] [.int x2] SM im2 Q) : V mX10_doingIs (d + 1) b 8 [some (.ref 0), some (.int l1), some (.int l2)] [] SM im Q := by
  refine V.iload_n dX10_doingIs_8 rfl rfl ?_
  refine V.iconst (v := 0) dX10_doingIs_9 (by decide) ?_
  refine V.iconst (v := 3) dX10_doingIs_10 (by decide) ?_
  refine V.cSI rfl vX10_in lkX10_47 sX10_in (As := [.int l2, .int (0 : Int32), .int (3 : Int32)]) rfl rfl rfl dX10_doingIs_11 hs (fun x2 im2 h2 => ?_)
  exact k x2 im2 h2
theorem bX10_doingIs_14 {d : Nat} {b : Nat × Nat}  {im : XI} {Q : Option Value → XS → XI → Prop} {l1 : Int32} {l2 : Int32} {s0 : Int32}  (kt : ¬ s0 = 0 → V mX10_doingIs d b 23 [some (.ref 0), some (.int l1), some (.int l2)] [] SM im Q) (kf : s0 = 0 → V mX10_doingIs d b 17 [some (.ref 0), some (.int l1), some (.int l2)] [] SM im Q) : V mX10_doingIs d b 14 [some (.ref 0), some (.int l1), some (.int l2)] [.int s0] SM im Q := by
  refine V.if_ne (tgt := 23) dX10_doingIs_14 (by decide) (fun h => ?_) (fun h => ?_)
  · exact kt h
  · exact kf h
theorem bX10_doingIs_17 {d : Nat} {b : Nat × Nat}  {im : XI} {Q : Option Value → XS → XI → Prop} {l1 : Int32} {l2 : Int32} {P : Int32 → XI → Prop}  (hs : SpI mX10_error d [.ref 0, .int (1 : Int32)] SM im P) (k : ∀ x2 im2, P x2 im2 → V mX10_doingIs (d + 1) b 22 [some (.ref 0), some (.int l1), some (.int l2)] [.int x2] SM im2 Q) : V mX10_doingIs (d + 1) b 17 [some (.ref 0), some (.int l1), some (.int l2)] [] SM im Q := by
  refine V.aload_n dX10_doingIs_17 rfl rfl ?_
  refine V.iconst (v := 1) dX10_doingIs_18 (by decide) ?_
  refine V.cVI rfl vX10_error lkX10_51 wX10_error (ci := 10) rfl (by rfl) (As := [.int (1 : Int32)]) rfl rfl rfl dX10_doingIs_19 hs (fun x2 im2 h2 => ?_)
  exact k x2 im2 h2
theorem bX10_doingIs_22 {d : Nat} {b : Nat × Nat}  {im : XI} {Q : Option Value → XS → XI → Prop} {l1 : Int32} {l2 : Int32} {s0 : Int32}  (hq : Q (some (.int s0)) SM im) : V mX10_doingIs d b 22 [some (.ref 0), some (.int l1), some (.int l2)] [.int s0] SM im Q := by
  exact V.iret rfl dX10_doingIs_22 hq
theorem bX10_doingIs_23 {d : Nat} {b : Nat × Nat}  {im : XI} {Q : Option Value → XS → XI → Prop} {l1 : Int32} {l2 : Int32}  (kt : (3 : Int32) ≤ l2 → V mX10_doingIs d b 37 [some (.ref 0), some (.int l1), some (.int l2)] [] SM im Q) (kf : ¬ (3 : Int32) ≤ l2 → V mX10_doingIs d b 28 [some (.ref 0), some (.int l1), some (.int l2)] [] SM im Q) : V mX10_doingIs d b 23 [some (.ref 0), some (.int l1), some (.int l2)] [] SM im Q := by
  refine V.iload_n dX10_doingIs_23 rfl rfl ?_
  refine V.iconst (v := 3) dX10_doingIs_24 (by decide) ?_
  refine V.icmp_ge (tgt := 37) dX10_doingIs_25 (by decide) (fun h => ?_) (fun h => ?_)
  · exact kt h
  · exact kf h
theorem bX10_doingIs_28 {d : Nat} {b : Nat × Nat}  {im : XI} {Q : Option Value → XS → XI → Prop} {l1 : Int32} {l2 : Int32} {P : Int32 → XI → Prop}  (hs : SpI mX10_ofDoing d [.ref 0, .int l1, .int l2] SM im P) (k : ∀ x2 im2, P x2 im2 → V mX10_doingIs (d + 1) b 34 [some (.ref 0), some (.int l1), some (.int l2)] [.int x2] SM im2 Q) : V mX10_doingIs (d + 1) b 28 [some (.ref 0), some (.int l1), some (.int l2)] [] SM im Q := by
  refine V.aload_n dX10_doingIs_28 rfl rfl ?_
  refine V.iload_n dX10_doingIs_29 rfl rfl ?_
  refine V.iload_n dX10_doingIs_30 rfl rfl ?_
  refine V.cVI rfl vX10_ofDoing lkX10_130 wX10_ofDoing (ci := 10) rfl (by rfl) (As := [.int l1, .int l2]) rfl rfl rfl dX10_doingIs_31 hs (fun x2 im2 h2 => ?_)
  exact k x2 im2 h2
theorem bX10_doingIs_34 {d : Nat} {b : Nat × Nat}  {im : XI} {Q : Option Value → XS → XI → Prop} {l1 : Int32} {l2 : Int32} {s0 : Int32}  (k : V mX10_doingIs d b 46 [some (.ref 0), some (.int l1), some (.int l2)] [.int s0] SM im Q) : V mX10_doingIs d b 34 [some (.ref 0), some (.int l1), some (.int l2)] [.int s0] SM im Q := by
  refine V.goto (tgt := 46) dX10_doingIs_34 (by decide) ?_
  exact k
theorem bX10_doingIs_37 {d : Nat} {b : Nat × Nat}  {im : XI} {Q : Option Value → XS → XI → Prop} {l1 : Int32} {l2 : Int32} {P : Int32 → XI → Prop}  (hs : SpI mX10_shutNow d [.ref 0] SM im P) (k : ∀ x2 im2, P x2 im2 → V mX10_doingIs (d + 1) b 43 [some (.ref 0), some (.int l1), some (.int l2)] [.int x2, .int l1, .ref 0] SM im2 Q) : V mX10_doingIs (d + 1) b 37 [some (.ref 0), some (.int l1), some (.int l2)] [] SM im Q := by
  refine V.aload_n dX10_doingIs_37 rfl rfl ?_
  refine V.iload_n dX10_doingIs_38 rfl rfl ?_
  refine V.aload_n dX10_doingIs_39 rfl rfl ?_
  refine V.cVI rfl vX10_shutNow lkX10_149 wX10_shutNow (ci := 10) rfl (by rfl) (As := []) rfl rfl rfl dX10_doingIs_40 hs (fun x2 im2 h2 => ?_)
  exact k x2 im2 h2
theorem bX10_doingIs_43 {d : Nat} {b : Nat × Nat}  {im : XI} {Q : Option Value → XS → XI → Prop} {l1 : Int32} {l2 : Int32} {s0 : Nat} {s1 : Int32} {s2 : Int32} {P : Int32 → XI → Prop} (g0 : SM.1[s0]? = some (.inl 10)) (hs : SpI mX10_onBy d [.ref s0, .int s1, .int s2] SM im P) (k : ∀ x2 im2, P x2 im2 → V mX10_doingIs (d + 1) b 46 [some (.ref 0), some (.int l1), some (.int l2)] [.int x2] SM im2 Q) : V mX10_doingIs (d + 1) b 43 [some (.ref 0), some (.int l1), some (.int l2)] [.int s2, .int s1, .ref s0] SM im Q := by
  refine V.cVI rfl vX10_onBy lkX10_142 wX10_onBy (ci := 10) rfl g0 (As := [.int s1, .int s2]) rfl rfl rfl dX10_doingIs_43 hs (fun x2 im2 h2 => ?_)
  exact k x2 im2 h2
theorem bX10_doingIs_46 {d : Nat} {b : Nat × Nat}  {im : XI} {Q : Option Value → XS → XI → Prop} {l1 : Int32} {l2 : Int32} {s0 : Int32}  (hq : Q (some (.int s0)) SM im) : V mX10_doingIs d b 46 [some (.ref 0), some (.int l1), some (.int l2)] [.int s0] SM im Q := by
  exact V.iret rfl dX10_doingIs_46 hq
theorem bX10_sets_0 {d : Nat} {b : Nat × Nat}  {im : XI} {Q : Option Value → XS → XI → Prop} {l1 : Int32} {l2 : Int32} {P : Int32 → XI → Prop}  (hs : SpI mX10_isDoing d [.ref 0, .int l1] SM im P) (k : ∀ x2 im2, P x2 im2 → V mX10_sets (d + 1) b 5 [some (.ref 0), some (.int l1), some (.int l2)] [.int x2] SM im2 Q) : V mX10_sets (d + 1) b 0 [some (.ref 0), some (.int l1), some (.int l2)] [] SM im Q := by
  refine V.aload_n dX10_sets_0 rfl rfl ?_
  refine V.iload_n dX10_sets_1 rfl rfl ?_
  refine V.cVI rfl vX10_isDoing lkX10_178 wX10_isDoing (ci := 10) rfl (by rfl) (As := [.int l1]) rfl rfl rfl dX10_sets_2 hs (fun x2 im2 h2 => ?_)
  exact k x2 im2 h2
theorem bX10_sets_5 {d : Nat} {b : Nat × Nat}  {im : XI} {Q : Option Value → XS → XI → Prop} {l1 : Int32} {l2 : Int32} {s0 : Int32}  (kt : s0 = 0 → V mX10_sets d b 34 [some (.ref 0), some (.int l1), some (.int l2)] [] SM im Q) (kf : ¬ s0 = 0 → V mX10_sets d b 8 [some (.ref 0), some (.int l1), some (.int l2)] [] SM im Q) : V mX10_sets d b 5 [some (.ref 0), some (.int l1), some (.int l2)] [.int s0] SM im Q := by
  refine V.if_eq (tgt := 34) dX10_sets_5 (by decide) (fun h => ?_) (fun h => ?_)
  · exact kt h
  · exact kf h
theorem bX10_sets_8 {d : Nat} {b : Nat × Nat}  {im : XI} {Q : Option Value → XS → XI → Prop} {l1 : Int32} {l2 : Int32} {P : Int32 → XI → Prop}  (hs : SpI mX10_in d [.int l2, .int (0 : Int32), .int (99 : Int32)] SM im P) (k : ∀ x2 im2, P x2 im2 → V mX10_sets (d + 1) b 15 [some (.ref 0), some (.int l1), some (.int l2)] [.int x2] SM im2 Q) : V mX10_sets (d + 1) b 8 [some (.ref 0), some (.int l1), some (.int l2)] [] SM im Q := by
  refine V.iload_n dX10_sets_8 rfl rfl ?_
  refine V.iconst (v := 0) dX10_sets_9 (by decide) ?_
  refine V.bipush (v := 99) dX10_sets_10 (by decide) ?_
  refine V.cSI rfl vX10_in lkX10_47 sX10_in (As := [.int l2, .int (0 : Int32), .int (99 : Int32)]) rfl rfl rfl dX10_sets_12 hs (fun x2 im2 h2 => ?_)
  exact k x2 im2 h2
theorem bX10_sets_15 {d : Nat} {b : Nat × Nat}  {im : XI} {Q : Option Value → XS → XI → Prop} {l1 : Int32} {l2 : Int32} {s0 : Int32}  (kt : s0 = 0 → V mX10_sets d b 34 [some (.ref 0), some (.int l1), some (.int l2)] [] SM im Q) (kf : ¬ s0 = 0 → V mX10_sets d b 18 [some (.ref 0), some (.int l1), some (.int l2)] [] SM im Q) : V mX10_sets d b 15 [some (.ref 0), some (.int l1), some (.int l2)] [.int s0] SM im Q := by
  refine V.if_eq (tgt := 34) dX10_sets_15 (by decide) (fun h => ?_) (fun h => ?_)
  · exact kt h
  · exact kf h
theorem bX10_sets_18 {d : Nat} {b : Nat × Nat}  {im : XI} {Q : Option Value → XS → XI → Prop} {l1 : Int32} {l2 : Int32} {P : Int32 → XI → Prop}  (hs : SpI mX10_change1 d [.ref 0, .int (((32 : Int32) + ((3 : Int32) * l1)) + (1 : Int32)), .int l2] SM im P) (k : ∀ x2 im2, P x2 im2 → V mX10_sets (d + 1) b 31 [some (.ref 0), some (.int l1), some (.int l2)] [.int x2] SM im2 Q) : V mX10_sets (d + 1) b 18 [some (.ref 0), some (.int l1), some (.int l2)] [] SM im Q := by
  refine V.aload_n dX10_sets_18 rfl rfl ?_
  refine V.bipush (v := 32) dX10_sets_19 (by decide) ?_
  refine V.iconst (v := 3) dX10_sets_21 (by decide) ?_
  refine V.iload_n dX10_sets_22 rfl rfl ?_
  refine V.imul dX10_sets_23 ?_
  refine V.iadd dX10_sets_24 ?_
  refine V.iconst (v := 1) dX10_sets_25 (by decide) ?_
  refine V.iadd dX10_sets_26 ?_
  refine V.iload_n dX10_sets_27 rfl rfl ?_
  refine V.cVI rfl vX10_change1 lkX10_169 wX10_change1 (ci := 10) rfl (by rfl) (As := [.int (((32 : Int32) + ((3 : Int32) * l1)) + (1 : Int32)), .int l2]) rfl rfl rfl dX10_sets_28 hs (fun x2 im2 h2 => ?_)
  exact k x2 im2 h2
theorem bX10_sets_31 {d : Nat} {b : Nat × Nat}  {im : XI} {Q : Option Value → XS → XI → Prop} {l1 : Int32} {l2 : Int32} {s0 : Int32}  (k : V mX10_sets d b 39 [some (.ref 0), some (.int l1), some (.int l2)] [.int s0] SM im Q) : V mX10_sets d b 31 [some (.ref 0), some (.int l1), some (.int l2)] [.int s0] SM im Q := by
  refine V.goto (tgt := 39) dX10_sets_31 (by decide) ?_
  exact k
theorem bX10_sets_34 {d : Nat} {b : Nat × Nat}  {im : XI} {Q : Option Value → XS → XI → Prop} {l1 : Int32} {l2 : Int32} {P : Int32 → XI → Prop}  (hs : SpI mX10_error d [.ref 0, .int (1 : Int32)] SM im P) (k : ∀ x2 im2, P x2 im2 → V mX10_sets (d + 1) b 39 [some (.ref 0), some (.int l1), some (.int l2)] [.int x2] SM im2 Q) : V mX10_sets (d + 1) b 34 [some (.ref 0), some (.int l1), some (.int l2)] [] SM im Q := by
  refine V.aload_n dX10_sets_34 rfl rfl ?_
  refine V.iconst (v := 1) dX10_sets_35 (by decide) ?_
  refine V.cVI rfl vX10_error lkX10_51 wX10_error (ci := 10) rfl (by rfl) (As := [.int (1 : Int32)]) rfl rfl rfl dX10_sets_36 hs (fun x2 im2 h2 => ?_)
  exact k x2 im2 h2
theorem bX10_sets_39 {d : Nat} {b : Nat × Nat}  {im : XI} {Q : Option Value → XS → XI → Prop} {l1 : Int32} {l2 : Int32} {s0 : Int32}  (hq : Q (some (.int s0)) SM im) : V mX10_sets d b 39 [some (.ref 0), some (.int l1), some (.int l2)] [.int s0] SM im Q := by
  exact V.iret rfl dX10_sets_39 hq
theorem bX10_shut_0 {d : Nat} {b : Nat × Nat}  {im : XI} {Q : Option Value → XS → XI → Prop} {P : Int32 → XI → Prop}  (hs : SpI mX10_shutNow d [.ref 0] SM im P) (k : ∀ x2 im2, P x2 im2 → V mX10_shut (d + 1) b 4 [some (.ref 0)] [.int x2] SM im2 Q) : V mX10_shut (d + 1) b 0 [some (.ref 0)] [] SM im Q := by
  refine V.aload_n dX10_shut_0 rfl rfl ?_
  refine V.cVI rfl vX10_shutNow lkX10_149 wX10_shutNow (ci := 10) rfl (by rfl) (As := []) rfl rfl rfl dX10_shut_1 hs (fun x2 im2 h2 => ?_)
  exact k x2 im2 h2
theorem bX10_shut_4 {d : Nat} {b : Nat × Nat}  {im : XI} {Q : Option Value → XS → XI → Prop} {s0 : Int32}  (hq : Q (some (.int s0)) SM im) : V mX10_shut d b 4 [some (.ref 0)] [.int s0] SM im Q := by
  exact V.iret rfl dX10_shut_4 hq
theorem bX10_law_0 {d : Nat} {b : Nat × Nat}  {im : XI} {Q : Option Value → XS → XI → Prop} {l1 : Int32} {l2 : Int32} {l3 : Int32} {l4 : Int32} {P : Int32 → XI → Prop}  (hs : SpI mX10_in d [.int l1, .int (0 : Int32), .int (1 : Int32)] SM im P) (k : ∀ x2 im2, P x2 im2 → V mX10_law (d + 1) b 6 [some (.ref 0), some (.int l1), some (.int l2), some (.int l3), some (.int l4)] [.int x2] SM im2 Q) : V mX10_law (d + 1) b 0 [some (.ref 0), some (.int l1), some (.int l2), some (.int l3), some (.int l4)] [] SM im Q := by
  refine V.iload_n dX10_law_0 rfl rfl ?_
  refine V.iconst (v := 0) dX10_law_1 (by decide) ?_
  refine V.iconst (v := 1) dX10_law_2 (by decide) ?_
  refine V.cSI rfl vX10_in lkX10_47 sX10_in (As := [.int l1, .int (0 : Int32), .int (1 : Int32)]) rfl rfl rfl dX10_law_3 hs (fun x2 im2 h2 => ?_)
  exact k x2 im2 h2
theorem bX10_law_6 {d : Nat} {b : Nat × Nat}  {im : XI} {Q : Option Value → XS → XI → Prop} {l1 : Int32} {l2 : Int32} {l3 : Int32} {l4 : Int32} {s0 : Int32}  (kt : ¬ s0 = 0 → V mX10_law d b 15 [some (.ref 0), some (.int l1), some (.int l2), some (.int l3), some (.int l4)] [] SM im Q) (kf : s0 = 0 → V mX10_law d b 9 [some (.ref 0), some (.int l1), some (.int l2), some (.int l3), some (.int l4)] [] SM im Q) : V mX10_law d b 6 [some (.ref 0), some (.int l1), some (.int l2), some (.int l3), some (.int l4)] [.int s0] SM im Q := by
  refine V.if_ne (tgt := 15) dX10_law_6 (by decide) (fun h => ?_) (fun h => ?_)
  · exact kt h
  · exact kf h
theorem bX10_law_9 {d : Nat} {b : Nat × Nat}  {im : XI} {Q : Option Value → XS → XI → Prop} {l1 : Int32} {l2 : Int32} {l3 : Int32} {l4 : Int32} {P : Int32 → XI → Prop}  (hs : SpI mX10_error d [.ref 0, .int (1 : Int32)] SM im P) (k : ∀ x2 im2, P x2 im2 → V mX10_law (d + 1) b 14 [some (.ref 0), some (.int l1), some (.int l2), some (.int l3), some (.int l4)] [.int x2] SM im2 Q) : V mX10_law (d + 1) b 9 [some (.ref 0), some (.int l1), some (.int l2), some (.int l3), some (.int l4)] [] SM im Q := by
  refine V.aload_n dX10_law_9 rfl rfl ?_
  refine V.iconst (v := 1) dX10_law_10 (by decide) ?_
  refine V.cVI rfl vX10_error lkX10_51 wX10_error (ci := 10) rfl (by rfl) (As := [.int (1 : Int32)]) rfl rfl rfl dX10_law_11 hs (fun x2 im2 h2 => ?_)
  exact k x2 im2 h2
theorem bX10_law_14 {d : Nat} {b : Nat × Nat}  {im : XI} {Q : Option Value → XS → XI → Prop} {l1 : Int32} {l2 : Int32} {l3 : Int32} {l4 : Int32} {s0 : Int32}  (hq : Q (some (.int s0)) SM im) : V mX10_law d b 14 [some (.ref 0), some (.int l1), some (.int l2), some (.int l3), some (.int l4)] [.int s0] SM im Q := by
  exact V.iret rfl dX10_law_14 hq
theorem bX10_law_15 {d : Nat} {b : Nat × Nat}  {im : XI} {Q : Option Value → XS → XI → Prop} {l1 : Int32} {l2 : Int32} {l3 : Int32} {l4 : Int32}  (kt : ¬ l1 = 0 → V mX10_law d b 30 [some (.ref 0), some (.int l1), some (.int l2), some (.int l3), some (.int l4)] [] SM im Q) (kf : l1 = 0 → V mX10_law d b 19 [some (.ref 0), some (.int l1), some (.int l2), some (.int l3), some (.int l4)] [] SM im Q) : V mX10_law d b 15 [some (.ref 0), some (.int l1), some (.int l2), some (.int l3), some (.int l4)] [] SM im Q := by
  refine V.iload_n dX10_law_15 rfl rfl ?_
  refine V.if_ne (tgt := 30) dX10_law_16 (by decide) (fun h => ?_) (fun h => ?_)
  · exact kt h
  · exact kf h
theorem bX10_law_19 {d : Nat} {b : Nat × Nat}  {im : XI} {Q : Option Value → XS → XI → Prop} {l1 : Int32} {l2 : Int32} {l3 : Int32} {l4 : Int32} {P : Int32 → XI → Prop}  (hs : SpI mX10_shutTold d [.ref 0, .int l2, .int l3, .int l4] SM im P) (k : ∀ x2 im2, P x2 im2 → V mX10_law (d + 1) b 27 [some (.ref 0), some (.int l1), some (.int l2), some (.int l3), some (.int l4)] [.int x2] SM im2 Q) : V mX10_law (d + 1) b 19 [some (.ref 0), some (.int l1), some (.int l2), some (.int l3), some (.int l4)] [] SM im Q := by
  refine V.aload_n dX10_law_19 rfl rfl ?_
  refine V.iload_n dX10_law_20 rfl rfl ?_
  refine V.iload_n dX10_law_21 rfl rfl ?_
  refine V.iload dX10_law_22 rfl ?_
  refine V.cVI rfl vX10_shutTold lkX10_124 wX10_shutTold (ci := 10) rfl (by rfl) (As := [.int l2, .int l3, .int l4]) rfl rfl rfl dX10_law_24 hs (fun x2 im2 h2 => ?_)
  exact k x2 im2 h2
theorem bX10_law_27 {d : Nat} {b : Nat × Nat}  {im : XI} {Q : Option Value → XS → XI → Prop} {l1 : Int32} {l2 : Int32} {l3 : Int32} {l4 : Int32} {s0 : Int32}  (k : V mX10_law d b 38 [some (.ref 0), some (.int l1), some (.int l2), some (.int l3), some (.int l4)] [.int s0] SM im Q) : V mX10_law d b 27 [some (.ref 0), some (.int l1), some (.int l2), some (.int l3), some (.int l4)] [.int s0] SM im Q := by
  refine V.goto (tgt := 38) dX10_law_27 (by decide) ?_
  exact k
theorem bX10_law_30 {d : Nat} {b : Nat × Nat}  {im : XI} {Q : Option Value → XS → XI → Prop} {l1 : Int32} {l2 : Int32} {l3 : Int32} {l4 : Int32} {P : Int32 → XI → Prop}  (hs : SpI mX10_onTold d [.ref 0, .int l2, .int l3, .int l4] SM im P) (k : ∀ x2 im2, P x2 im2 → V mX10_law (d + 1) b 38 [some (.ref 0), some (.int l1), some (.int l2), some (.int l3), some (.int l4)] [.int x2] SM im2 Q) : V mX10_law (d + 1) b 30 [some (.ref 0), some (.int l1), some (.int l2), some (.int l3), some (.int l4)] [] SM im Q := by
  refine V.aload_n dX10_law_30 rfl rfl ?_
  refine V.iload_n dX10_law_31 rfl rfl ?_
  refine V.iload_n dX10_law_32 rfl rfl ?_
  refine V.iload dX10_law_33 rfl ?_
  refine V.cVI rfl vX10_onTold lkX10_139 wX10_onTold (ci := 10) rfl (by rfl) (As := [.int l2, .int l3, .int l4]) rfl rfl rfl dX10_law_35 hs (fun x2 im2 h2 => ?_)
  exact k x2 im2 h2
theorem bX10_law_38 {d : Nat} {b : Nat × Nat}  {im : XI} {Q : Option Value → XS → XI → Prop} {l1 : Int32} {l2 : Int32} {l3 : Int32} {l4 : Int32} {s0 : Int32}  (hq : Q (some (.int s0)) SM im) : V mX10_law d b 38 [some (.ref 0), some (.int l1), some (.int l2), some (.int l3), some (.int l4)] [.int s0] SM im Q := by
  exact V.iret rfl dX10_law_38 hq
theorem bX10_whyNot_0 {d : Nat} {b : Nat × Nat}  {im : XI} {Q : Option Value → XS → XI → Prop} {l1 : Int32} {l2 : Int32} {P : Int32 → XI → Prop}  (hs : SpI mX10_in d [.int l1, .int (1 : Int32), .int l2] SM im P) (k : ∀ x2 im2, P x2 im2 → V mX10_whyNot (d + 1) b 6 [some (.ref 0), some (.int l1), some (.int l2)] [.int x2] SM im2 Q) : V mX10_whyNot (d + 1) b 0 [some (.ref 0), some (.int l1), some (.int l2)] [] SM im Q := by
  refine V.iload_n dX10_whyNot_0 rfl rfl ?_
  refine V.iconst (v := 1) dX10_whyNot_1 (by decide) ?_
  refine V.iload_n dX10_whyNot_2 rfl rfl ?_
  refine V.cSI rfl vX10_in lkX10_47 sX10_in (As := [.int l1, .int (1 : Int32), .int l2]) rfl rfl rfl dX10_whyNot_3 hs (fun x2 im2 h2 => ?_)
  exact k x2 im2 h2
theorem bX10_whyNot_6 {d : Nat} {b : Nat × Nat}  {im : XI} {Q : Option Value → XS → XI → Prop} {l1 : Int32} {l2 : Int32} {s0 : Int32}  (kt : ¬ s0 = 0 → V mX10_whyNot d b 13 [some (.ref 0), some (.int l1), some (.int l2)] [] SM im Q) (kf : s0 = 0 → V mX10_whyNot d b 9 [some (.ref 0), some (.int l1), some (.int l2)] [] SM im Q) : V mX10_whyNot d b 6 [some (.ref 0), some (.int l1), some (.int l2)] [.int s0] SM im Q := by
  refine V.if_ne (tgt := 13) dX10_whyNot_6 (by decide) (fun h => ?_) (fun h => ?_)
  · exact kt h
  · exact kf h
theorem bX10_whyNot_9 {d : Nat} {b : Nat × Nat}  {im : XI} {Q : Option Value → XS → XI → Prop} {l1 : Int32} {l2 : Int32}  (k : V mX10_whyNot d b 31 [some (.ref 0), some (.int l1), some (.int l2)] [.int (1 : Int32)] SM im Q) : V mX10_whyNot d b 9 [some (.ref 0), some (.int l1), some (.int l2)] [] SM im Q := by
  refine V.iconst (v := 1) dX10_whyNot_9 (by decide) ?_
  refine V.goto (tgt := 31) dX10_whyNot_10 (by decide) ?_
  exact k
theorem bX10_whyNot_13 {d : Nat} {b : Nat × Nat}  {im : XI} {Q : Option Value → XS → XI → Prop} {l1 : Int32} {l2 : Int32}  (kt : ((im 1 0) + l1) ≤ (99999 : Int32) → V mX10_whyNot d b 30 [some (.ref 0), some (.int l1), some (.int l2)] [] SM im Q) (kf : ¬ ((im 1 0) + l1) ≤ (99999 : Int32) → V mX10_whyNot d b 26 [some (.ref 0), some (.int l1), some (.int l2)] [] SM im Q) : V mX10_whyNot d b 13 [some (.ref 0), some (.int l1), some (.int l2)] [] SM im Q := by
  refine V.aload_n dX10_whyNot_13 rfl rfl ?_
  refine V.getR fX10_7 rfl (by rfl) (by rfl) dX10_whyNot_14 ?_
  refine V.iconst (v := 0) dX10_whyNot_17 (by decide) ?_
  refine V.iald (i := 0) ⟨by rfl, by rfl⟩ (by rfl) (by decide) dX10_whyNot_18 ?_
  refine V.iload_n dX10_whyNot_19 rfl rfl ?_
  refine V.iadd dX10_whyNot_20 ?_
  refine V.ldc kX10_181 dX10_whyNot_21 ?_
  refine V.icmp_le (tgt := 30) dX10_whyNot_23 (by decide) (fun h => ?_) (fun h => ?_)
  · exact kt h
  · exact kf h
theorem bX10_whyNot_26 {d : Nat} {b : Nat × Nat}  {im : XI} {Q : Option Value → XS → XI → Prop} {l1 : Int32} {l2 : Int32}  (k : V mX10_whyNot d b 31 [some (.ref 0), some (.int l1), some (.int l2)] [.int (3 : Int32)] SM im Q) : V mX10_whyNot d b 26 [some (.ref 0), some (.int l1), some (.int l2)] [] SM im Q := by
  refine V.iconst (v := 3) dX10_whyNot_26 (by decide) ?_
  refine V.goto (tgt := 31) dX10_whyNot_27 (by decide) ?_
  exact k
theorem bX10_whyNot_30 {d : Nat} {b : Nat × Nat}  {im : XI} {Q : Option Value → XS → XI → Prop} {l1 : Int32} {l2 : Int32}  (k : V mX10_whyNot d b 31 [some (.ref 0), some (.int l1), some (.int l2)] [.int (0 : Int32)] SM im Q) : V mX10_whyNot d b 30 [some (.ref 0), some (.int l1), some (.int l2)] [] SM im Q := by
  refine V.iconst (v := 0) dX10_whyNot_30 (by decide) ?_
  exact k
theorem bX10_whyNot_31 {d : Nat} {b : Nat × Nat}  {im : XI} {Q : Option Value → XS → XI → Prop} {l1 : Int32} {l2 : Int32} {s0 : Int32}  (hq : Q (some (.int s0)) SM im) : V mX10_whyNot d b 31 [some (.ref 0), some (.int l1), some (.int l2)] [.int s0] SM im Q := by
  exact V.iret rfl dX10_whyNot_31 hq
theorem bX10_ticks_0 {d : Nat} {b : Nat × Nat}  {im : XI} {Q : Option Value → XS → XI → Prop} {l1 : Int32} {P : Int32 → XI → Prop}  (hs : SpI mX10_whyNot d [.ref 0, .int l1, .int (200 : Int32)] SM im P) (k : ∀ x2 im2, P x2 im2 → V mX10_ticks (d + 1) b 8 [some (.ref 0), some (.int l1), none, none, none] [.int x2] SM im2 Q) : V mX10_ticks (d + 1) b 0 [some (.ref 0), some (.int l1), none, none, none] [] SM im Q := by
  refine V.aload_n dX10_ticks_0 rfl rfl ?_
  refine V.iload_n dX10_ticks_1 rfl rfl ?_
  refine V.sipush (v := 200) dX10_ticks_2 (by decide) ?_
  refine V.cVI rfl vX10_whyNot lkX10_182 wX10_whyNot (ci := 10) rfl (by rfl) (As := [.int l1, .int (200 : Int32)]) rfl rfl rfl dX10_ticks_5 hs (fun x2 im2 h2 => ?_)
  exact k x2 im2 h2
theorem bX10_ticks_8 {d : Nat} {b : Nat × Nat}  {im : XI} {Q : Option Value → XS → XI → Prop} {l1 : Int32} {s0 : Int32}  (kt : s0 = 0 → V mX10_ticks d b 19 [some (.ref 0), some (.int l1), some (.int s0), none, none] [] SM im Q) (kf : ¬ s0 = 0 → V mX10_ticks d b 13 [some (.ref 0), some (.int l1), some (.int s0), none, none] [] SM im Q) : V mX10_ticks d b 8 [some (.ref 0), some (.int l1), none, none, none] [.int s0] SM im Q := by
  refine V.istore_n dX10_ticks_8 rfl rfl rfl ?_
  refine V.iload_n dX10_ticks_9 rfl rfl ?_
  refine V.if_eq (tgt := 19) dX10_ticks_10 (by decide) (fun h => ?_) (fun h => ?_)
  · exact kt h
  · exact kf h
theorem bX10_ticks_13 {d : Nat} {b : Nat × Nat}  {im : XI} {Q : Option Value → XS → XI → Prop} {l1 : Int32} {l2 : Int32} {P : Int32 → XI → Prop}  (hs : SpI mX10_error d [.ref 0, .int l2] SM im P) (k : ∀ x2 im2, P x2 im2 → V mX10_ticks (d + 1) b 18 [some (.ref 0), some (.int l1), some (.int l2), none, none] [.int x2] SM im2 Q) : V mX10_ticks (d + 1) b 13 [some (.ref 0), some (.int l1), some (.int l2), none, none] [] SM im Q := by
  refine V.aload_n dX10_ticks_13 rfl rfl ?_
  refine V.iload_n dX10_ticks_14 rfl rfl ?_
  refine V.cVI rfl vX10_error lkX10_51 wX10_error (ci := 10) rfl (by rfl) (As := [.int l2]) rfl rfl rfl dX10_ticks_15 hs (fun x2 im2 h2 => ?_)
  exact k x2 im2 h2
theorem bX10_ticks_18 {d : Nat} {b : Nat × Nat}  {im : XI} {Q : Option Value → XS → XI → Prop} {l1 : Int32} {l2 : Int32} {s0 : Int32}  (hq : Q (some (.int s0)) SM im) : V mX10_ticks d b 18 [some (.ref 0), some (.int l1), some (.int l2), none, none] [.int s0] SM im Q := by
  exact V.iret rfl dX10_ticks_18 hq
theorem bX10_ticks_19 {d : Nat} {b : Nat × Nat}  {im : XI} {Q : Option Value → XS → XI → Prop} {l1 : Int32} {l2 : Int32}  (k : V mX10_ticks d b 24 [some (.ref 0), some (.int l1), some (.int l2), some (.int (0 : Int32)), some (.int (0 : Int32))] [] SM im Q) : V mX10_ticks d b 19 [some (.ref 0), some (.int l1), some (.int l2), none, none] [] SM im Q := by
  refine V.iconst (v := 0) dX10_ticks_19 (by decide) ?_
  refine V.istore_n dX10_ticks_20 rfl rfl rfl ?_
  refine V.iconst (v := 0) dX10_ticks_21 (by decide) ?_
  refine V.istore dX10_ticks_22 rfl rfl ?_
  exact k
theorem bX10_ticks_24 {d : Nat} {b : Nat × Nat}  {im : XI} {Q : Option Value → XS → XI → Prop} {l1 : Int32} {l2 : Int32} {l3 : Int32} {l4 : Int32}  (kt : l1 ≤ l4 → V mX10_ticks d b 43 [some (.ref 0), some (.int l1), some (.int l2), some (.int l3), some (.int l4)] [] SM im Q) (kf : ¬ l1 ≤ l4 → V mX10_ticks d b 30 [some (.ref 0), some (.int l1), some (.int l2), some (.int l3), some (.int l4)] [] SM im Q) : V mX10_ticks d b 24 [some (.ref 0), some (.int l1), some (.int l2), some (.int l3), some (.int l4)] [] SM im Q := by
  refine V.iload dX10_ticks_24 rfl ?_
  refine V.iload_n dX10_ticks_26 rfl rfl ?_
  refine V.icmp_ge (tgt := 43) dX10_ticks_27 (by decide) (fun h => ?_) (fun h => ?_)
  · exact kt h
  · exact kf h
theorem bX10_ticks_30 {d : Nat} {b : Nat × Nat}  {im : XI} {Q : Option Value → XS → XI → Prop} {l1 : Int32} {l2 : Int32} {l3 : Int32} {l4 : Int32} {P : Int32 → XI → Prop}  (hs : SpI mX10_aTick d [.ref 0] SM im P) (k : ∀ x2 im2, P x2 im2 → V mX10_ticks (d + 1) b 35 [some (.ref 0), some (.int l1), some (.int l2), some (.int l3), some (.int l4)] [.int x2, .int l3] SM im2 Q) : V mX10_ticks (d + 1) b 30 [some (.ref 0), some (.int l1), some (.int l2), some (.int l3), some (.int l4)] [] SM im Q := by
  refine V.iload_n dX10_ticks_30 rfl rfl ?_
  refine V.aload_n dX10_ticks_31 rfl rfl ?_
  refine V.cVI rfl vX10_aTick lkX10_185 wX10_aTick (ci := 10) rfl (by rfl) (As := []) rfl rfl rfl dX10_ticks_32 hs (fun x2 im2 h2 => ?_)
  exact k x2 im2 h2
theorem bX10_ticks_35 {d : Nat} {b : Nat × Nat}  {im : XI} {Q : Option Value → XS → XI → Prop} {l1 : Int32} {l2 : Int32} {l3 : Int32} {l4 : Int32} {s0 : Int32} {s1 : Int32}  (k : V mX10_ticks d b 24 [some (.ref 0), some (.int l1), some (.int l2), some (.int (s0 + s1)), some (.int (l4 + (1 : Int32)))] [] SM im Q) : V mX10_ticks d b 35 [some (.ref 0), some (.int l1), some (.int l2), some (.int l3), some (.int l4)] [.int s1, .int s0] SM im Q := by
  refine V.iadd dX10_ticks_35 ?_
  refine V.istore_n dX10_ticks_36 rfl rfl rfl ?_
  refine V.iinc (v := (l4 + (1 : Int32))) dX10_ticks_37 rfl rfl rfl ?_
  refine V.goto (tgt := 24) dX10_ticks_40 (by decide) ?_
  exact k
theorem bX10_ticks_43 {d : Nat} {b : Nat × Nat}  {im : XI} {Q : Option Value → XS → XI → Prop} {l1 : Int32} {l2 : Int32} {l3 : Int32} {l4 : Int32}  (hq : Q (some (.int l3)) SM im) : V mX10_ticks d b 43 [some (.ref 0), some (.int l1), some (.int l2), some (.int l3), some (.int l4)] [] SM im Q := by
  refine V.iload_n dX10_ticks_43 rfl rfl ?_
  exact V.iret rfl dX10_ticks_44 hq
theorem bX10_shifts_0 {d : Nat} {b : Nat × Nat}  {im : XI} {Q : Option Value → XS → XI → Prop}   (kt : (im 1 4) ≤ 0 → V mX10_shifts d b 47 [some (.ref 0), none] [] SM im Q) (kf : ¬ (im 1 4) ≤ 0 → V mX10_shifts d b 9 [some (.ref 0), none] [] SM im Q) : V mX10_shifts d b 0 [some (.ref 0), none] [] SM im Q := by
  refine V.aload_n dX10_shifts_0 rfl rfl ?_
  refine V.getR fX10_7 rfl (by rfl) (by rfl) dX10_shifts_1 ?_
  refine V.iconst (v := 4) dX10_shifts_4 (by decide) ?_
  refine V.iald (i := 4) ⟨by rfl, by rfl⟩ (by rfl) (by decide) dX10_shifts_5 ?_
  refine V.if_le (tgt := 47) dX10_shifts_6 (by decide) (fun h => ?_) (fun h => ?_)
  · exact kt h
  · exact kf h
theorem bX10_shifts_9 {d : Nat} {b : Nat × Nat}  {im : XI} {Q : Option Value → XS → XI → Prop} {P : Int32 → XI → Prop}  (hs : SpI mX10_draw d [.ref 0] SM im P) (k : ∀ x2 im2, P x2 im2 → V mX10_shifts (d + 1) b 13 [some (.ref 0), none] [.int x2] SM im2 Q) : V mX10_shifts (d + 1) b 9 [some (.ref 0), none] [] SM im Q := by
  refine V.aload_n dX10_shifts_9 rfl rfl ?_
  refine V.cVI rfl vX10_draw lkX10_188 wX10_draw (ci := 10) rfl (by rfl) (As := []) rfl rfl rfl dX10_shifts_10 hs (fun x2 im2 h2 => ?_)
  exact k x2 im2 h2
theorem bX10_shifts_13 {d : Nat} {b : Nat × Nat}  {im : XI} {Q : Option Value → XS → XI → Prop} {s0 : Int32}  (kt : ¬ (s0 - s0 / (4 : Int32) * (4 : Int32)) = 0 → V mX10_shifts d b 47 [some (.ref 0), none] [] SM im Q) (kf : (s0 - s0 / (4 : Int32) * (4 : Int32)) = 0 → V mX10_shifts d b 18 [some (.ref 0), none] [] SM im Q) : V mX10_shifts d b 13 [some (.ref 0), none] [.int s0] SM im Q := by
  refine V.iconst (v := 4) dX10_shifts_13 (by decide) ?_
  refine V.irem dX10_shifts_14 (by decide) ?_
  refine V.if_ne (tgt := 47) dX10_shifts_15 (by decide) (fun h => ?_) (fun h => ?_)
  · exact kt h
  · exact kf h
theorem bX10_shifts_18 {d : Nat} {b : Nat × Nat}  {im : XI} {Q : Option Value → XS → XI → Prop} {P : Int32 → XI → Prop}  (hs : SpI mX10_draw d [.ref 0] SM im P) (k : ∀ x2 im2, P x2 im2 → V mX10_shifts (d + 1) b 22 [some (.ref 0), none] [.int x2] SM im2 Q) : V mX10_shifts (d + 1) b 18 [some (.ref 0), none] [] SM im Q := by
  refine V.aload_n dX10_shifts_18 rfl rfl ?_
  refine V.cVI rfl vX10_draw lkX10_188 wX10_draw (ci := 10) rfl (by rfl) (As := []) rfl rfl rfl dX10_shifts_19 hs (fun x2 im2 h2 => ?_)
  exact k x2 im2 h2
theorem bX10_shifts_22 {d : Nat} {b : Nat × Nat}  {im : XI} {Q : Option Value → XS → XI → Prop} {s0 : Int32} {P : Int32 → XI → Prop} (g0 : ¬ (im 1 4) = 0) (hs : SpI mX10_draw d [.ref 0] SM im P) (k : ∀ x2 im2, P x2 im2 → V mX10_shifts (d + 1) b 37 [some (.ref 0), some (.int (s0 - s0 / (im 1 4) * (im 1 4)))] [.int x2, .int (3 : Int32), .int (s0 - s0 / (im 1 4) * (im 1 4)), .ref 0] SM im2 Q) : V mX10_shifts (d + 1) b 22 [some (.ref 0), none] [.int s0] SM im Q := by
  refine V.aload_n dX10_shifts_22 rfl rfl ?_
  refine V.getR fX10_7 rfl (by rfl) (by rfl) dX10_shifts_23 ?_
  refine V.iconst (v := 4) dX10_shifts_26 (by decide) ?_
  refine V.iald (i := 4) ⟨by rfl, by rfl⟩ (by rfl) (by decide) dX10_shifts_27 ?_
  refine V.irem dX10_shifts_28 g0 ?_
  refine V.istore_n dX10_shifts_29 rfl rfl rfl ?_
  refine V.aload_n dX10_shifts_30 rfl rfl ?_
  refine V.iload_n dX10_shifts_31 rfl rfl ?_
  refine V.iconst (v := 3) dX10_shifts_32 (by decide) ?_
  refine V.aload_n dX10_shifts_33 rfl rfl ?_
  refine V.cVI rfl vX10_draw lkX10_188 wX10_draw (ci := 10) rfl (by rfl) (As := []) rfl rfl rfl dX10_shifts_34 hs (fun x2 im2 h2 => ?_)
  exact k x2 im2 h2
theorem bX10_shifts_37 {d : Nat} {b : Nat × Nat}  {im : XI} {Q : Option Value → XS → XI → Prop} {l1 : Int32} {s0 : Nat} {s1 : Int32} {s2 : Int32} {s3 : Int32} {P : Int32 → XI → Prop}  (hs : SpI mX10_its d [.ref 0, .int l1, .int (2 : Int32)] SM im P) (k : ∀ x2 im2, P x2 im2 → V mX10_shifts (d + 1) b 43 [some (.ref 0), some (.int l1)] [.int x2, .int s3, .int s2, .int s1, .ref s0] SM im2 Q) : V mX10_shifts (d + 1) b 37 [some (.ref 0), some (.int l1)] [.int s3, .int s2, .int s1, .ref s0] SM im Q := by
  refine V.aload_n dX10_shifts_37 rfl rfl ?_
  refine V.iload_n dX10_shifts_38 rfl rfl ?_
  refine V.iconst (v := 2) dX10_shifts_39 (by decide) ?_
  refine V.cVI rfl vX10_its lkX10_111 wX10_its (ci := 10) rfl (by rfl) (As := [.int l1, .int (2 : Int32)]) rfl rfl rfl dX10_shifts_40 hs (fun x2 im2 h2 => ?_)
  exact k x2 im2 h2
theorem bX10_shifts_43 {d : Nat} {b : Nat × Nat}  {im : XI} {Q : Option Value → XS → XI → Prop} {l1 : Int32} {s0 : Nat} {s1 : Int32} {s2 : Int32} {s3 : Int32} {s4 : Int32} {P : XI → Prop} (g0 : ¬ s4 = 0) (g1 : SM.1[s0]? = some (.inl 10)) (hs : SpV mX10_lays1 d [.ref s0, .int s1, .int s2, .int (s3 - s3 / s4 * s4)] SM im P) (k : ∀ im2, P im2 → V mX10_shifts (d + 1) b 47 [some (.ref 0), none] [] SM im2 Q) : V mX10_shifts (d + 1) b 43 [some (.ref 0), some (.int l1)] [.int s4, .int s3, .int s2, .int s1, .ref s0] SM im Q := by
  refine V.irem dX10_shifts_43 g0 ?_
  refine V.cVV rfl vX10_lays1 lkX10_163 wX10_lays1 (ci := 10) rfl g1 (As := [.int s1, .int s2, .int (s3 - s3 / s4 * s4)]) rfl rfl rfl dX10_shifts_44 hs (fun im2 h2 => ?_)
  exact V.weakm [true, false] rfl (k im2 h2)
theorem bX10_shifts_47 {d : Nat} {b : Nat × Nat}  {im : XI} {Q : Option Value → XS → XI → Prop}   (hq : Q none SM im) : V mX10_shifts d b 47 [some (.ref 0), none] [] SM im Q := by
  exact V.vret rfl dX10_shifts_47 hq
theorem bX10_loose_0 {d : Nat} {b : Nat × Nat}  {im : XI} {Q : Option Value → XS → XI → Prop} {l1 : Int32} {P : Int32 → XI → Prop}  (hs : SpI mX10_whyNot d [.ref 0, .int l1, .int (30 : Int32)] SM im P) (k : ∀ x2 im2, P x2 im2 → V mX10_loose (d + 1) b 7 [some (.ref 0), some (.int l1), none, none, none] [.int x2] SM im2 Q) : V mX10_loose (d + 1) b 0 [some (.ref 0), some (.int l1), none, none, none] [] SM im Q := by
  refine V.aload_n dX10_loose_0 rfl rfl ?_
  refine V.iload_n dX10_loose_1 rfl rfl ?_
  refine V.bipush (v := 30) dX10_loose_2 (by decide) ?_
  refine V.cVI rfl vX10_whyNot lkX10_182 wX10_whyNot (ci := 10) rfl (by rfl) (As := [.int l1, .int (30 : Int32)]) rfl rfl rfl dX10_loose_4 hs (fun x2 im2 h2 => ?_)
  exact k x2 im2 h2
theorem bX10_loose_7 {d : Nat} {b : Nat × Nat}  {im : XI} {Q : Option Value → XS → XI → Prop} {l1 : Int32} {s0 : Int32}  (kt : s0 = 0 → V mX10_loose d b 18 [some (.ref 0), some (.int l1), some (.int s0), none, none] [] SM im Q) (kf : ¬ s0 = 0 → V mX10_loose d b 12 [some (.ref 0), some (.int l1), some (.int s0), none, none] [] SM im Q) : V mX10_loose d b 7 [some (.ref 0), some (.int l1), none, none, none] [.int s0] SM im Q := by
  refine V.istore_n dX10_loose_7 rfl rfl rfl ?_
  refine V.iload_n dX10_loose_8 rfl rfl ?_
  refine V.if_eq (tgt := 18) dX10_loose_9 (by decide) (fun h => ?_) (fun h => ?_)
  · exact kt h
  · exact kf h
theorem bX10_loose_12 {d : Nat} {b : Nat × Nat}  {im : XI} {Q : Option Value → XS → XI → Prop} {l1 : Int32} {l2 : Int32} {P : Int32 → XI → Prop}  (hs : SpI mX10_error d [.ref 0, .int l2] SM im P) (k : ∀ x2 im2, P x2 im2 → V mX10_loose (d + 1) b 17 [some (.ref 0), some (.int l1), some (.int l2), none, none] [.int x2] SM im2 Q) : V mX10_loose (d + 1) b 12 [some (.ref 0), some (.int l1), some (.int l2), none, none] [] SM im Q := by
  refine V.aload_n dX10_loose_12 rfl rfl ?_
  refine V.iload_n dX10_loose_13 rfl rfl ?_
  refine V.cVI rfl vX10_error lkX10_51 wX10_error (ci := 10) rfl (by rfl) (As := [.int l2]) rfl rfl rfl dX10_loose_14 hs (fun x2 im2 h2 => ?_)
  exact k x2 im2 h2
theorem bX10_loose_17 {d : Nat} {b : Nat × Nat}  {im : XI} {Q : Option Value → XS → XI → Prop} {l1 : Int32} {l2 : Int32} {s0 : Int32}  (hq : Q (some (.int s0)) SM im) : V mX10_loose d b 17 [some (.ref 0), some (.int l1), some (.int l2), none, none] [.int s0] SM im Q := by
  exact V.iret rfl dX10_loose_17 hq
theorem bX10_loose_18 {d : Nat} {b : Nat × Nat}  {im : XI} {Q : Option Value → XS → XI → Prop} {l1 : Int32} {l2 : Int32}  (k : V mX10_loose d b 23 [some (.ref 0), some (.int l1), some (.int l2), some (.int (0 : Int32)), some (.int (0 : Int32))] [] SM im Q) : V mX10_loose d b 18 [some (.ref 0), some (.int l1), some (.int l2), none, none] [] SM im Q := by
  refine V.iconst (v := 0) dX10_loose_18 (by decide) ?_
  refine V.istore_n dX10_loose_19 rfl rfl rfl ?_
  refine V.iconst (v := 0) dX10_loose_20 (by decide) ?_
  refine V.istore dX10_loose_21 rfl rfl ?_
  exact k
theorem bX10_loose_23 {d : Nat} {b : Nat × Nat}  {im : XI} {Q : Option Value → XS → XI → Prop} {l1 : Int32} {l2 : Int32} {l3 : Int32} {l4 : Int32}  (kt : l1 ≤ l4 → V mX10_loose d b 46 [some (.ref 0), some (.int l1), some (.int l2), some (.int l3), some (.int l4)] [] SM im Q) (kf : ¬ l1 ≤ l4 → V mX10_loose d b 29 [some (.ref 0), some (.int l1), some (.int l2), some (.int l3), some (.int l4)] [] SM im Q) : V mX10_loose d b 23 [some (.ref 0), some (.int l1), some (.int l2), some (.int l3), some (.int l4)] [] SM im Q := by
  refine V.iload dX10_loose_23 rfl ?_
  refine V.iload_n dX10_loose_25 rfl rfl ?_
  refine V.icmp_ge (tgt := 46) dX10_loose_26 (by decide) (fun h => ?_) (fun h => ?_)
  · exact kt h
  · exact kf h
theorem bX10_loose_29 {d : Nat} {b : Nat × Nat}  {im : XI} {Q : Option Value → XS → XI → Prop} {l1 : Int32} {l2 : Int32} {l3 : Int32} {l4 : Int32} {P : XI → Prop}  (hs : SpV mX10_shifts d [.ref 0] SM im P) (k : ∀ im2, P im2 → V mX10_loose (d + 1) b 33 [some (.ref 0), some (.int l1), some (.int l2), some (.int l3), some (.int l4)] [] SM im2 Q) : V mX10_loose (d + 1) b 29 [some (.ref 0), some (.int l1), some (.int l2), some (.int l3), some (.int l4)] [] SM im Q := by
  refine V.aload_n dX10_loose_29 rfl rfl ?_
  refine V.cVV rfl vX10_shifts lkX10_191 wX10_shifts (ci := 10) rfl (by rfl) (As := []) rfl rfl rfl dX10_loose_30 hs (fun im2 h2 => ?_)
  exact k im2 h2
theorem bX10_loose_33 {d : Nat} {b : Nat × Nat}  {im : XI} {Q : Option Value → XS → XI → Prop} {l1 : Int32} {l2 : Int32} {l3 : Int32} {l4 : Int32} {P : Int32 → XI → Prop}  (hs : SpI mX10_aTick d [.ref 0] SM im P) (k : ∀ x2 im2, P x2 im2 → V mX10_loose (d + 1) b 38 [some (.ref 0), some (.int l1), some (.int l2), some (.int l3), some (.int l4)] [.int x2, .int l3] SM im2 Q) : V mX10_loose (d + 1) b 33 [some (.ref 0), some (.int l1), some (.int l2), some (.int l3), some (.int l4)] [] SM im Q := by
  refine V.iload_n dX10_loose_33 rfl rfl ?_
  refine V.aload_n dX10_loose_34 rfl rfl ?_
  refine V.cVI rfl vX10_aTick lkX10_185 wX10_aTick (ci := 10) rfl (by rfl) (As := []) rfl rfl rfl dX10_loose_35 hs (fun x2 im2 h2 => ?_)
  exact k x2 im2 h2
theorem bX10_loose_38 {d : Nat} {b : Nat × Nat}  {im : XI} {Q : Option Value → XS → XI → Prop} {l1 : Int32} {l2 : Int32} {l3 : Int32} {l4 : Int32} {s0 : Int32} {s1 : Int32}  (k : V mX10_loose d b 23 [some (.ref 0), some (.int l1), some (.int l2), some (.int (s0 + s1)), some (.int (l4 + (1 : Int32)))] [] SM im Q) : V mX10_loose d b 38 [some (.ref 0), some (.int l1), some (.int l2), some (.int l3), some (.int l4)] [.int s1, .int s0] SM im Q := by
  refine V.iadd dX10_loose_38 ?_
  refine V.istore_n dX10_loose_39 rfl rfl rfl ?_
  refine V.iinc (v := (l4 + (1 : Int32))) dX10_loose_40 rfl rfl rfl ?_
  refine V.goto (tgt := 23) dX10_loose_43 (by decide) ?_
  exact k
theorem bX10_loose_46 {d : Nat} {b : Nat × Nat}  {im : XI} {Q : Option Value → XS → XI → Prop} {l1 : Int32} {l2 : Int32} {l3 : Int32} {l4 : Int32}  (hq : Q (some (.int l3)) SM im) : V mX10_loose d b 46 [some (.ref 0), some (.int l1), some (.int l2), some (.int l3), some (.int l4)] [] SM im Q := by
  refine V.iload_n dX10_loose_46 rfl rfl ?_
  exact V.iret rfl dX10_loose_47 hq
theorem bX10_tick_0 {d : Nat} {b : Nat × Nat}  {im : XI} {Q : Option Value → XS → XI → Prop} {l1 : Int32} {P : Int32 → XI → Prop}  (hs : SpI mX10_in d [.int l1, .int (0 : Int32), .int (99999 : Int32)] SM im P) (k : ∀ x2 im2, P x2 im2 → V mX10_tick (d + 1) b 7 [some (.ref 0), some (.int l1)] [.int x2] SM im2 Q) : V mX10_tick (d + 1) b 0 [some (.ref 0), some (.int l1)] [] SM im Q := by
  refine V.iload_n dX10_tick_0 rfl rfl ?_
  refine V.iconst (v := 0) dX10_tick_1 (by decide) ?_
  refine V.ldc kX10_181 dX10_tick_2 ?_
  refine V.cSI rfl vX10_in lkX10_47 sX10_in (As := [.int l1, .int (0 : Int32), .int (99999 : Int32)]) rfl rfl rfl dX10_tick_4 hs (fun x2 im2 h2 => ?_)
  exact k x2 im2 h2
theorem bX10_tick_7 {d : Nat} {b : Nat × Nat}  {im : XI} {Q : Option Value → XS → XI → Prop} {l1 : Int32} {s0 : Int32}  (kt : s0 = 0 → V mX10_tick d b 19 [some (.ref 0), some (.int l1)] [] SM im Q) (kf : ¬ s0 = 0 → V mX10_tick d b 10 [some (.ref 0), some (.int l1)] [] SM im Q) : V mX10_tick d b 7 [some (.ref 0), some (.int l1)] [.int s0] SM im Q := by
  refine V.if_eq (tgt := 19) dX10_tick_7 (by decide) (fun h => ?_) (fun h => ?_)
  · exact kt h
  · exact kf h
theorem bX10_tick_10 {d : Nat} {b : Nat × Nat}  {im : XI} {Q : Option Value → XS → XI → Prop} {l1 : Int32} {P : Int32 → XI → Prop}  (hs : SpI mX10_change1 d [.ref 0, .int (0 : Int32), .int l1] SM im P) (k : ∀ x2 im2, P x2 im2 → V mX10_tick (d + 1) b 16 [some (.ref 0), some (.int l1)] [.int x2] SM im2 Q) : V mX10_tick (d + 1) b 10 [some (.ref 0), some (.int l1)] [] SM im Q := by
  refine V.aload_n dX10_tick_10 rfl rfl ?_
  refine V.iconst (v := 0) dX10_tick_11 (by decide) ?_
  refine V.iload_n dX10_tick_12 rfl rfl ?_
  refine V.cVI rfl vX10_change1 lkX10_169 wX10_change1 (ci := 10) rfl (by rfl) (As := [.int (0 : Int32), .int l1]) rfl rfl rfl dX10_tick_13 hs (fun x2 im2 h2 => ?_)
  exact k x2 im2 h2
theorem bX10_tick_16 {d : Nat} {b : Nat × Nat}  {im : XI} {Q : Option Value → XS → XI → Prop} {l1 : Int32} {s0 : Int32}  (k : V mX10_tick d b 24 [some (.ref 0), some (.int l1)] [.int s0] SM im Q) : V mX10_tick d b 16 [some (.ref 0), some (.int l1)] [.int s0] SM im Q := by
  refine V.goto (tgt := 24) dX10_tick_16 (by decide) ?_
  exact k
theorem bX10_tick_19 {d : Nat} {b : Nat × Nat}  {im : XI} {Q : Option Value → XS → XI → Prop} {l1 : Int32} {P : Int32 → XI → Prop}  (hs : SpI mX10_error d [.ref 0, .int (1 : Int32)] SM im P) (k : ∀ x2 im2, P x2 im2 → V mX10_tick (d + 1) b 24 [some (.ref 0), some (.int l1)] [.int x2] SM im2 Q) : V mX10_tick (d + 1) b 19 [some (.ref 0), some (.int l1)] [] SM im Q := by
  refine V.aload_n dX10_tick_19 rfl rfl ?_
  refine V.iconst (v := 1) dX10_tick_20 (by decide) ?_
  refine V.cVI rfl vX10_error lkX10_51 wX10_error (ci := 10) rfl (by rfl) (As := [.int (1 : Int32)]) rfl rfl rfl dX10_tick_21 hs (fun x2 im2 h2 => ?_)
  exact k x2 im2 h2
theorem bX10_tick_24 {d : Nat} {b : Nat × Nat}  {im : XI} {Q : Option Value → XS → XI → Prop} {l1 : Int32} {s0 : Int32}  (hq : Q (some (.int s0)) SM im) : V mX10_tick d b 24 [some (.ref 0), some (.int l1)] [.int s0] SM im Q := by
  exact V.iret rfl dX10_tick_24 hq
theorem bX10_seed_0 {d : Nat} {b : Nat × Nat}  {im : XI} {Q : Option Value → XS → XI → Prop} {l1 : Int32} {P : Int32 → XI → Prop}  (hs : SpI mX10_change1 d [.ref 0, .int (1 : Int32), .int l1] SM im P) (k : ∀ x2 im2, P x2 im2 → V mX10_seed (d + 1) b 6 [some (.ref 0), some (.int l1)] [.int x2] SM im2 Q) : V mX10_seed (d + 1) b 0 [some (.ref 0), some (.int l1)] [] SM im Q := by
  refine V.aload_n dX10_seed_0 rfl rfl ?_
  refine V.iconst (v := 1) dX10_seed_1 (by decide) ?_
  refine V.iload_n dX10_seed_2 rfl rfl ?_
  refine V.cVI rfl vX10_change1 lkX10_169 wX10_change1 (ci := 10) rfl (by rfl) (As := [.int (1 : Int32), .int l1]) rfl rfl rfl dX10_seed_3 hs (fun x2 im2 h2 => ?_)
  exact k x2 im2 h2
theorem bX10_seed_6 {d : Nat} {b : Nat × Nat}  {im : XI} {Q : Option Value → XS → XI → Prop} {l1 : Int32} {s0 : Int32}  (hq : Q (some (.int s0)) SM im) : V mX10_seed d b 6 [some (.ref 0), some (.int l1)] [.int s0] SM im Q := by
  exact V.iret rfl dX10_seed_6 hq
theorem bX10_then_0 {d : Nat} {b : Nat × Nat}  {im : XI} {Q : Option Value → XS → XI → Prop} {l1 : Int32} {l2 : Int32} {P : Int32 → XI → Prop}  (hs : SpI mX10_isDoing d [.ref 0, .int l1] SM im P) (k : ∀ x2 im2, P x2 im2 → V mX10_then (d + 1) b 5 [some (.ref 0), some (.int l1), some (.int l2), none, none] [.int x2] SM im2 Q) : V mX10_then (d + 1) b 0 [some (.ref 0), some (.int l1), some (.int l2), none, none] [] SM im Q := by
  refine V.aload_n dX10_then_0 rfl rfl ?_
  refine V.iload_n dX10_then_1 rfl rfl ?_
  refine V.cVI rfl vX10_isDoing lkX10_178 wX10_isDoing (ci := 10) rfl (by rfl) (As := [.int l1]) rfl rfl rfl dX10_then_2 hs (fun x2 im2 h2 => ?_)
  exact k x2 im2 h2
theorem bX10_then_5 {d : Nat} {b : Nat × Nat}  {im : XI} {Q : Option Value → XS → XI → Prop} {l1 : Int32} {l2 : Int32} {s0 : Int32}  (kt : s0 = 0 → V mX10_then d b 19 [some (.ref 0), some (.int l1), some (.int l2), none, none] [] SM im Q) (kf : ¬ s0 = 0 → V mX10_then d b 8 [some (.ref 0), some (.int l1), some (.int l2), none, none] [] SM im Q) : V mX10_then d b 5 [some (.ref 0), some (.int l1), some (.int l2), none, none] [.int s0] SM im Q := by
  refine V.if_eq (tgt := 19) dX10_then_5 (by decide) (fun h => ?_) (fun h => ?_)
  · exact kt h
  · exact kf h
theorem bX10_then_8 {d : Nat} {b : Nat × Nat}  {im : XI} {Q : Option Value → XS → XI → Prop} {l1 : Int32} {l2 : Int32} {P : Int32 → XI → Prop}  (hs : SpI mX10_in d [.int l2, .int (0 : Int32), .int (200 : Int32)] SM im P) (k : ∀ x2 im2, P x2 im2 → V mX10_then (d + 1) b 16 [some (.ref 0), some (.int l1), some (.int l2), none, none] [.int x2] SM im2 Q) : V mX10_then (d + 1) b 8 [some (.ref 0), some (.int l1), some (.int l2), none, none] [] SM im Q := by
  refine V.iload_n dX10_then_8 rfl rfl ?_
  refine V.iconst (v := 0) dX10_then_9 (by decide) ?_
  refine V.sipush (v := 200) dX10_then_10 (by decide) ?_
  refine V.cSI rfl vX10_in lkX10_47 sX10_in (As := [.int l2, .int (0 : Int32), .int (200 : Int32)]) rfl rfl rfl dX10_then_13 hs (fun x2 im2 h2 => ?_)
  exact k x2 im2 h2
theorem bX10_then_16 {d : Nat} {b : Nat × Nat}  {im : XI} {Q : Option Value → XS → XI → Prop} {l1 : Int32} {l2 : Int32} {s0 : Int32}  (kt : ¬ s0 = 0 → V mX10_then d b 25 [some (.ref 0), some (.int l1), some (.int l2), none, none] [] SM im Q) (kf : s0 = 0 → V mX10_then d b 19 [some (.ref 0), some (.int l1), some (.int l2), none, none] [] SM im Q) : V mX10_then d b 16 [some (.ref 0), some (.int l1), some (.int l2), none, none] [.int s0] SM im Q := by
  refine V.if_ne (tgt := 25) dX10_then_16 (by decide) (fun h => ?_) (fun h => ?_)
  · exact kt h
  · exact kf h
theorem bX10_then_19 {d : Nat} {b : Nat × Nat}  {im : XI} {Q : Option Value → XS → XI → Prop} {l1 : Int32} {l2 : Int32} {P : Int32 → XI → Prop}  (hs : SpI mX10_error d [.ref 0, .int (1 : Int32)] SM im P) (k : ∀ x2 im2, P x2 im2 → V mX10_then (d + 1) b 24 [some (.ref 0), some (.int l1), some (.int l2), none, none] [.int x2] SM im2 Q) : V mX10_then (d + 1) b 19 [some (.ref 0), some (.int l1), some (.int l2), none, none] [] SM im Q := by
  refine V.aload_n dX10_then_19 rfl rfl ?_
  refine V.iconst (v := 1) dX10_then_20 (by decide) ?_
  refine V.cVI rfl vX10_error lkX10_51 wX10_error (ci := 10) rfl (by rfl) (As := [.int (1 : Int32)]) rfl rfl rfl dX10_then_21 hs (fun x2 im2 h2 => ?_)
  exact k x2 im2 h2
theorem bX10_then_24 {d : Nat} {b : Nat × Nat}  {im : XI} {Q : Option Value → XS → XI → Prop} {l1 : Int32} {l2 : Int32} {s0 : Int32}  (hq : Q (some (.int s0)) SM im) : V mX10_then d b 24 [some (.ref 0), some (.int l1), some (.int l2), none, none] [.int s0] SM im Q := by
  exact V.iret rfl dX10_then_24 hq
theorem bX10_then_25 {d : Nat} {b : Nat × Nat}  {im : XI} {Q : Option Value → XS → XI → Prop} {l1 : Int32} {l2 : Int32} {P : XI → Prop}  (hs : SpV mX10_layDown d [.ref 0] SM im P) (k : ∀ im2, P im2 → V mX10_then (d + 1) b 29 [some (.ref 0), some (.int l1), some (.int l2), none, none] [] SM im2 Q) : V mX10_then (d + 1) b 25 [some (.ref 0), some (.int l1), some (.int l2), none, none] [] SM im Q := by
  refine V.aload_n dX10_then_25 rfl rfl ?_
  refine V.cVV rfl vX10_layDown lkX10_194 wX10_layDown (ci := 10) rfl (by rfl) (As := []) rfl rfl rfl dX10_then_26 hs (fun im2 h2 => ?_)
  exact k im2 h2
theorem bX10_then_29 {d : Nat} {b : Nat × Nat}  {im : XI} {Q : Option Value → XS → XI → Prop} {l1 : Int32} {l2 : Int32}  (k : V mX10_then d b 31 [some (.ref 0), some (.int l1), some (.int l2), some (.int (0 : Int32)), none] [] SM im Q) : V mX10_then d b 29 [some (.ref 0), some (.int l1), some (.int l2), none, none] [] SM im Q := by
  refine V.iconst (v := 0) dX10_then_29 (by decide) ?_
  refine V.istore_n dX10_then_30 rfl rfl rfl ?_
  exact k
theorem bX10_then_31 {d : Nat} {b : Nat × Nat}  {im : XI} {Q : Option Value → XS → XI → Prop} {l1 : Int32} {l2 : Int32} {l3 : Int32}  (kt : l2 ≤ l3 → V mX10_then d b 63 [some (.ref 0), some (.int l1), some (.int l2), some (.int l3), none] [] SM im Q) (kf : ¬ l2 ≤ l3 → V mX10_then d b 36 [some (.ref 0), some (.int l1), some (.int l2), some (.int l3), none] [] SM im Q) : V mX10_then d b 31 [some (.ref 0), some (.int l1), some (.int l2), some (.int l3), none] [] SM im Q := by
  refine V.iload_n dX10_then_31 rfl rfl ?_
  refine V.iload_n dX10_then_32 rfl rfl ?_
  refine V.icmp_ge (tgt := 63) dX10_then_33 (by decide) (fun h => ?_) (fun h => ?_)
  · exact kt h
  · exact kf h
theorem bX10_then_36 {d : Nat} {b : Nat × Nat}  {im : XI} {Q : Option Value → XS → XI → Prop} {l1 : Int32} {l2 : Int32} {l3 : Int32} {P : Int32 → XI → Prop}  (hs : SpI mX10_shutNow d [.ref 0] SM im P) (k : ∀ x2 im2, P x2 im2 → V mX10_then (d + 1) b 42 [some (.ref 0), some (.int l1), some (.int l2), some (.int l3), none] [.int x2, .int l1, .ref 0] SM im2 Q) : V mX10_then (d + 1) b 36 [some (.ref 0), some (.int l1), some (.int l2), some (.int l3), none] [] SM im Q := by
  refine V.aload_n dX10_then_36 rfl rfl ?_
  refine V.iload_n dX10_then_37 rfl rfl ?_
  refine V.aload_n dX10_then_38 rfl rfl ?_
  refine V.cVI rfl vX10_shutNow lkX10_149 wX10_shutNow (ci := 10) rfl (by rfl) (As := []) rfl rfl rfl dX10_then_39 hs (fun x2 im2 h2 => ?_)
  exact k x2 im2 h2
theorem bX10_then_42 {d : Nat} {b : Nat × Nat}  {im : XI} {Q : Option Value → XS → XI → Prop} {l1 : Int32} {l2 : Int32} {l3 : Int32} {s0 : Nat} {s1 : Int32} {s2 : Int32} {P : Int32 → XI → Prop} (g0 : SM.1[s0]? = some (.inl 10)) (hs : SpI mX10_getsOn d [.ref s0, .int s1, .int s2] SM im P) (k : ∀ x2 im2, P x2 im2 → V mX10_then (d + 1) b 45 [some (.ref 0), some (.int l1), some (.int l2), some (.int l3), none] [.int x2] SM im2 Q) : V mX10_then (d + 1) b 42 [some (.ref 0), some (.int l1), some (.int l2), some (.int l3), none] [.int s2, .int s1, .ref s0] SM im Q := by
  refine V.cVI rfl vX10_getsOn lkX10_152 wX10_getsOn (ci := 10) rfl g0 (As := [.int s1, .int s2]) rfl rfl rfl dX10_then_42 hs (fun x2 im2 h2 => ?_)
  exact k x2 im2 h2
theorem bX10_then_45 {d : Nat} {b : Nat × Nat}  {im : XI} {Q : Option Value → XS → XI → Prop} {l1 : Int32} {l2 : Int32} {l3 : Int32} {s0 : Int32}  (k : V mX10_then d b 31 [some (.ref 0), some (.int l1), some (.int l2), some (.int (l3 + (1 : Int32))), none] [] SM (xup im 1 0 ((im 1 0) + (1 : Int32))) Q) : V mX10_then d b 45 [some (.ref 0), some (.int l1), some (.int l2), some (.int l3), none] [.int s0] SM im Q := by
  refine V.istore dX10_then_45 rfl rfl ?_
  refine V.aload_n dX10_then_47 rfl rfl ?_
  refine V.getR fX10_7 rfl (by rfl) (by rfl) dX10_then_48 ?_
  refine V.iconst (v := 0) dX10_then_51 (by decide) ?_
  refine V.dup2 dX10_then_52 rfl rfl ?_
  refine V.iald (i := 0) ⟨by rfl, by rfl⟩ (by rfl) (by decide) dX10_then_53 ?_
  refine V.iconst (v := 1) dX10_then_54 (by decide) ?_
  refine V.iadd dX10_then_55 ?_
  refine V.iast (i := 0) ⟨by rfl, by rfl⟩ (by rfl) (by decide) dX10_then_56 ?_
  refine V.iinc (v := (l3 + (1 : Int32))) dX10_then_57 rfl rfl rfl ?_
  refine V.goto (tgt := 31) dX10_then_60 (by decide) ?_
  exact V.weakm [true, true, true, true, false] rfl (k)
theorem bX10_then_63 {d : Nat} {b : Nat × Nat}  {im : XI} {Q : Option Value → XS → XI → Prop} {l1 : Int32} {l2 : Int32} {l3 : Int32} {P : Int32 → XI → Prop}  (hs : SpI mX10_ofDoing d [.ref 0, .int l1, .int (1 : Int32)] SM im P) (k : ∀ x2 im2, P x2 im2 → V mX10_then (d + 1) b 69 [some (.ref 0), some (.int l1), some (.int l2), some (.int l3), none] [.int x2] SM im2 Q) : V mX10_then (d + 1) b 63 [some (.ref 0), some (.int l1), some (.int l2), some (.int l3), none] [] SM im Q := by
  refine V.aload_n dX10_then_63 rfl rfl ?_
  refine V.iload_n dX10_then_64 rfl rfl ?_
  refine V.iconst (v := 1) dX10_then_65 (by decide) ?_
  refine V.cVI rfl vX10_ofDoing lkX10_130 wX10_ofDoing (ci := 10) rfl (by rfl) (As := [.int l1, .int (1 : Int32)]) rfl rfl rfl dX10_then_66 hs (fun x2 im2 h2 => ?_)
  exact k x2 im2 h2
theorem bX10_then_69 {d : Nat} {b : Nat × Nat}  {im : XI} {Q : Option Value → XS → XI → Prop} {l1 : Int32} {l2 : Int32} {l3 : Int32} {s0 : Int32} {P : XI → Prop}  (hs : SpV mX10_layBack d [.ref 0] SM im P) (k : ∀ im2, P im2 → V mX10_then (d + 1) b 74 [some (.ref 0), some (.int l1), some (.int l2), some (.int s0), none] [] SM im2 Q) : V mX10_then (d + 1) b 69 [some (.ref 0), some (.int l1), some (.int l2), some (.int l3), none] [.int s0] SM im Q := by
  refine V.istore_n dX10_then_69 rfl rfl rfl ?_
  refine V.aload_n dX10_then_70 rfl rfl ?_
  refine V.cVV rfl vX10_layBack lkX10_197 wX10_layBack (ci := 10) rfl (by rfl) (As := []) rfl rfl rfl dX10_then_71 hs (fun im2 h2 => ?_)
  exact k im2 h2
theorem bX10_then_74 {d : Nat} {b : Nat × Nat}  {im : XI} {Q : Option Value → XS → XI → Prop} {l1 : Int32} {l2 : Int32} {l3 : Int32}  (hq : Q (some (.int l3)) SM im) : V mX10_then d b 74 [some (.ref 0), some (.int l1), some (.int l2), some (.int l3), none] [] SM im Q := by
  refine V.iload_n dX10_then_74 rfl rfl ?_
  exact V.iret rfl dX10_then_75 hq
theorem bX10_doneBy_0 {d : Nat} {b : Nat × Nat}  {im : XI} {Q : Option Value → XS → XI → Prop} {l1 : Int32} {l2 : Int32}  (k : V mX10_doneBy d b 2 [some (.ref 0), some (.int l1), some (.int l2), some (.int (0 : Int32)), none] [] SM im Q) : V mX10_doneBy d b 0 [some (.ref 0), some (.int l1), some (.int l2), none, none] [] SM im Q := by
  refine V.iconst (v := 0) dX10_doneBy_0 (by decide) ?_
  refine V.istore_n dX10_doneBy_1 rfl rfl rfl ?_
  exact k
theorem bX10_doneBy_2 {d : Nat} {b : Nat × Nat}  {im : XI} {Q : Option Value → XS → XI → Prop} {l1 : Int32} {l2 : Int32} {l3 : Int32}  (kt : l2 < l3 → V mX10_doneBy d b 43 [some (.ref 0), some (.int l1), some (.int l2), some (.int l3), none] [] SM im Q) (kf : ¬ l2 < l3 → V mX10_doneBy d b 7 [some (.ref 0), some (.int l1), some (.int l2), some (.int l3), none] [] SM im Q) : V mX10_doneBy d b 2 [some (.ref 0), some (.int l1), some (.int l2), some (.int l3), none] [] SM im Q := by
  refine V.iload_n dX10_doneBy_2 rfl rfl ?_
  refine V.iload_n dX10_doneBy_3 rfl rfl ?_
  refine V.icmp_gt (tgt := 43) dX10_doneBy_4 (by decide) (fun h => ?_) (fun h => ?_)
  · exact kt h
  · exact kf h
theorem bX10_doneBy_7 {d : Nat} {b : Nat × Nat}  {im : XI} {Q : Option Value → XS → XI → Prop} {l1 : Int32} {l2 : Int32} {l3 : Int32} {P : Int32 → XI → Prop}  (hs : SpI mX10_ofDoing d [.ref 0, .int l1, .int (1 : Int32)] SM im P) (k : ∀ x2 im2, P x2 im2 → V mX10_doneBy (d + 1) b 13 [some (.ref 0), some (.int l1), some (.int l2), some (.int l3), none] [.int x2] SM im2 Q) : V mX10_doneBy (d + 1) b 7 [some (.ref 0), some (.int l1), some (.int l2), some (.int l3), none] [] SM im Q := by
  refine V.aload_n dX10_doneBy_7 rfl rfl ?_
  refine V.iload_n dX10_doneBy_8 rfl rfl ?_
  refine V.iconst (v := 1) dX10_doneBy_9 (by decide) ?_
  refine V.cVI rfl vX10_ofDoing lkX10_130 wX10_ofDoing (ci := 10) rfl (by rfl) (As := [.int l1, .int (1 : Int32)]) rfl rfl rfl dX10_doneBy_10 hs (fun x2 im2 h2 => ?_)
  exact k x2 im2 h2
theorem bX10_doneBy_13 {d : Nat} {b : Nat × Nat}  {im : XI} {Q : Option Value → XS → XI → Prop} {l1 : Int32} {l2 : Int32} {l3 : Int32} {s0 : Int32}  (kt : s0 ≤ 0 → V mX10_doneBy d b 43 [some (.ref 0), some (.int l1), some (.int l2), some (.int l3), none] [] SM im Q) (kf : ¬ s0 ≤ 0 → V mX10_doneBy d b 16 [some (.ref 0), some (.int l1), some (.int l2), some (.int l3), none] [] SM im Q) : V mX10_doneBy d b 13 [some (.ref 0), some (.int l1), some (.int l2), some (.int l3), none] [.int s0] SM im Q := by
  refine V.if_le (tgt := 43) dX10_doneBy_13 (by decide) (fun h => ?_) (fun h => ?_)
  · exact kt h
  · exact kf h
theorem bX10_doneBy_16 {d : Nat} {b : Nat × Nat}  {im : XI} {Q : Option Value → XS → XI → Prop} {l1 : Int32} {l2 : Int32} {l3 : Int32} {P : Int32 → XI → Prop}  (hs : SpI mX10_shutNow d [.ref 0] SM im P) (k : ∀ x2 im2, P x2 im2 → V mX10_doneBy (d + 1) b 22 [some (.ref 0), some (.int l1), some (.int l2), some (.int l3), none] [.int x2, .int l1, .ref 0] SM im2 Q) : V mX10_doneBy (d + 1) b 16 [some (.ref 0), some (.int l1), some (.int l2), some (.int l3), none] [] SM im Q := by
  refine V.aload_n dX10_doneBy_16 rfl rfl ?_
  refine V.iload_n dX10_doneBy_17 rfl rfl ?_
  refine V.aload_n dX10_doneBy_18 rfl rfl ?_
  refine V.cVI rfl vX10_shutNow lkX10_149 wX10_shutNow (ci := 10) rfl (by rfl) (As := []) rfl rfl rfl dX10_doneBy_19 hs (fun x2 im2 h2 => ?_)
  exact k x2 im2 h2
theorem bX10_doneBy_22 {d : Nat} {b : Nat × Nat}  {im : XI} {Q : Option Value → XS → XI → Prop} {l1 : Int32} {l2 : Int32} {l3 : Int32} {s0 : Nat} {s1 : Int32} {s2 : Int32} {P : Int32 → XI → Prop} (g0 : SM.1[s0]? = some (.inl 10)) (hs : SpI mX10_getsOn d [.ref s0, .int s1, .int s2] SM im P) (k : ∀ x2 im2, P x2 im2 → V mX10_doneBy (d + 1) b 25 [some (.ref 0), some (.int l1), some (.int l2), some (.int l3), none] [.int x2] SM im2 Q) : V mX10_doneBy (d + 1) b 22 [some (.ref 0), some (.int l1), some (.int l2), some (.int l3), none] [.int s2, .int s1, .ref s0] SM im Q := by
  refine V.cVI rfl vX10_getsOn lkX10_152 wX10_getsOn (ci := 10) rfl g0 (As := [.int s1, .int s2]) rfl rfl rfl dX10_doneBy_22 hs (fun x2 im2 h2 => ?_)
  exact k x2 im2 h2
theorem bX10_doneBy_25 {d : Nat} {b : Nat × Nat}  {im : XI} {Q : Option Value → XS → XI → Prop} {l1 : Int32} {l2 : Int32} {l3 : Int32} {s0 : Int32}  (k : V mX10_doneBy d b 2 [some (.ref 0), some (.int l1), some (.int l2), some (.int (l3 + (1 : Int32))), none] [] SM (xup im 1 0 ((im 1 0) + (1 : Int32))) Q) : V mX10_doneBy d b 25 [some (.ref 0), some (.int l1), some (.int l2), some (.int l3), none] [.int s0] SM im Q := by
  refine V.istore dX10_doneBy_25 rfl rfl ?_
  refine V.aload_n dX10_doneBy_27 rfl rfl ?_
  refine V.getR fX10_7 rfl (by rfl) (by rfl) dX10_doneBy_28 ?_
  refine V.iconst (v := 0) dX10_doneBy_31 (by decide) ?_
  refine V.dup2 dX10_doneBy_32 rfl rfl ?_
  refine V.iald (i := 0) ⟨by rfl, by rfl⟩ (by rfl) (by decide) dX10_doneBy_33 ?_
  refine V.iconst (v := 1) dX10_doneBy_34 (by decide) ?_
  refine V.iadd dX10_doneBy_35 ?_
  refine V.iast (i := 0) ⟨by rfl, by rfl⟩ (by rfl) (by decide) dX10_doneBy_36 ?_
  refine V.iinc (v := (l3 + (1 : Int32))) dX10_doneBy_37 rfl rfl rfl ?_
  refine V.goto (tgt := 2) dX10_doneBy_40 (by decide) ?_
  exact V.weakm [true, true, true, true, false] rfl (k)
theorem bX10_doneBy_43 {d : Nat} {b : Nat × Nat}  {im : XI} {Q : Option Value → XS → XI → Prop} {l1 : Int32} {l2 : Int32} {l3 : Int32} {P : XI → Prop}  (hs : SpV mX10_layBack d [.ref 0] SM im P) (k : ∀ im2, P im2 → V mX10_doneBy (d + 1) b 47 [some (.ref 0), some (.int l1), some (.int l2), some (.int l3), none] [] SM im2 Q) : V mX10_doneBy (d + 1) b 43 [some (.ref 0), some (.int l1), some (.int l2), some (.int l3), none] [] SM im Q := by
  refine V.aload_n dX10_doneBy_43 rfl rfl ?_
  refine V.cVV rfl vX10_layBack lkX10_197 wX10_layBack (ci := 10) rfl (by rfl) (As := []) rfl rfl rfl dX10_doneBy_44 hs (fun im2 h2 => ?_)
  exact k im2 h2
theorem bX10_doneBy_47 {d : Nat} {b : Nat × Nat}  {im : XI} {Q : Option Value → XS → XI → Prop} {l1 : Int32} {l2 : Int32} {l3 : Int32}  (kt : l3 ≤ l2 → V mX10_doneBy d b 56 [some (.ref 0), some (.int l1), some (.int l2), some (.int l3), none] [] SM im Q) (kf : ¬ l3 ≤ l2 → V mX10_doneBy d b 52 [some (.ref 0), some (.int l1), some (.int l2), some (.int l3), none] [] SM im Q) : V mX10_doneBy d b 47 [some (.ref 0), some (.int l1), some (.int l2), some (.int l3), none] [] SM im Q := by
  refine V.iload_n dX10_doneBy_47 rfl rfl ?_
  refine V.iload_n dX10_doneBy_48 rfl rfl ?_
  refine V.icmp_le (tgt := 56) dX10_doneBy_49 (by decide) (fun h => ?_) (fun h => ?_)
  · exact kt h
  · exact kf h
theorem bX10_doneBy_52 {d : Nat} {b : Nat × Nat}  {im : XI} {Q : Option Value → XS → XI → Prop} {l1 : Int32} {l2 : Int32} {l3 : Int32}  (k : V mX10_doneBy d b 57 [some (.ref 0), some (.int l1), some (.int l2), some (.int l3), none] [.int (-1 : Int32)] SM im Q) : V mX10_doneBy d b 52 [some (.ref 0), some (.int l1), some (.int l2), some (.int l3), none] [] SM im Q := by
  refine V.iconst (v := -1) dX10_doneBy_52 (by decide) ?_
  refine V.goto (tgt := 57) dX10_doneBy_53 (by decide) ?_
  exact k
theorem bX10_doneBy_56 {d : Nat} {b : Nat × Nat}  {im : XI} {Q : Option Value → XS → XI → Prop} {l1 : Int32} {l2 : Int32} {l3 : Int32}  (k : V mX10_doneBy d b 57 [some (.ref 0), some (.int l1), some (.int l2), some (.int l3), none] [.int l3] SM im Q) : V mX10_doneBy d b 56 [some (.ref 0), some (.int l1), some (.int l2), some (.int l3), none] [] SM im Q := by
  refine V.iload_n dX10_doneBy_56 rfl rfl ?_
  exact k
theorem bX10_doneBy_57 {d : Nat} {b : Nat × Nat}  {im : XI} {Q : Option Value → XS → XI → Prop} {l1 : Int32} {l2 : Int32} {l3 : Int32} {s0 : Int32}  (hq : Q (some (.int s0)) SM im) : V mX10_doneBy d b 57 [some (.ref 0), some (.int l1), some (.int l2), some (.int l3), none] [.int s0] SM im Q := by
  exact V.iret rfl dX10_doneBy_57 hq
theorem bX10_soonest_0 {d : Nat} {b : Nat × Nat}  {im : XI} {Q : Option Value → XS → XI → Prop} {l1 : Int32} {P : Int32 → XI → Prop}  (hs : SpI mX10_isDoing d [.ref 0, .int l1] SM im P) (k : ∀ x2 im2, P x2 im2 → V mX10_soonest (d + 1) b 5 [some (.ref 0), some (.int l1), none] [.int x2] SM im2 Q) : V mX10_soonest (d + 1) b 0 [some (.ref 0), some (.int l1), none] [] SM im Q := by
  refine V.aload_n dX10_soonest_0 rfl rfl ?_
  refine V.iload_n dX10_soonest_1 rfl rfl ?_
  refine V.cVI rfl vX10_isDoing lkX10_178 wX10_isDoing (ci := 10) rfl (by rfl) (As := [.int l1]) rfl rfl rfl dX10_soonest_2 hs (fun x2 im2 h2 => ?_)
  exact k x2 im2 h2
theorem bX10_soonest_5 {d : Nat} {b : Nat × Nat}  {im : XI} {Q : Option Value → XS → XI → Prop} {l1 : Int32} {s0 : Int32}  (kt : ¬ s0 = 0 → V mX10_soonest d b 14 [some (.ref 0), some (.int l1), none] [] SM im Q) (kf : s0 = 0 → V mX10_soonest d b 8 [some (.ref 0), some (.int l1), none] [] SM im Q) : V mX10_soonest d b 5 [some (.ref 0), some (.int l1), none] [.int s0] SM im Q := by
  refine V.if_ne (tgt := 14) dX10_soonest_5 (by decide) (fun h => ?_) (fun h => ?_)
  · exact kt h
  · exact kf h
theorem bX10_soonest_8 {d : Nat} {b : Nat × Nat}  {im : XI} {Q : Option Value → XS → XI → Prop} {l1 : Int32} {P : Int32 → XI → Prop}  (hs : SpI mX10_error d [.ref 0, .int (1 : Int32)] SM im P) (k : ∀ x2 im2, P x2 im2 → V mX10_soonest (d + 1) b 13 [some (.ref 0), some (.int l1), none] [.int x2] SM im2 Q) : V mX10_soonest (d + 1) b 8 [some (.ref 0), some (.int l1), none] [] SM im Q := by
  refine V.aload_n dX10_soonest_8 rfl rfl ?_
  refine V.iconst (v := 1) dX10_soonest_9 (by decide) ?_
  refine V.cVI rfl vX10_error lkX10_51 wX10_error (ci := 10) rfl (by rfl) (As := [.int (1 : Int32)]) rfl rfl rfl dX10_soonest_10 hs (fun x2 im2 h2 => ?_)
  exact k x2 im2 h2
theorem bX10_soonest_13 {d : Nat} {b : Nat × Nat}  {im : XI} {Q : Option Value → XS → XI → Prop} {l1 : Int32} {s0 : Int32}  (hq : Q (some (.int s0)) SM im) : V mX10_soonest d b 13 [some (.ref 0), some (.int l1), none] [.int s0] SM im Q := by
  exact V.iret rfl dX10_soonest_13 hq
theorem bX10_soonest_14 {d : Nat} {b : Nat × Nat}  {im : XI} {Q : Option Value → XS → XI → Prop} {l1 : Int32} {P : XI → Prop}  (hs : SpV mX10_layDown d [.ref 0] SM im P) (k : ∀ im2, P im2 → V mX10_soonest (d + 1) b 18 [some (.ref 0), some (.int l1), none] [] SM im2 Q) : V mX10_soonest (d + 1) b 14 [some (.ref 0), some (.int l1), none] [] SM im Q := by
  refine V.aload_n dX10_soonest_14 rfl rfl ?_
  refine V.cVV rfl vX10_layDown lkX10_194 wX10_layDown (ci := 10) rfl (by rfl) (As := []) rfl rfl rfl dX10_soonest_15 hs (fun im2 h2 => ?_)
  exact k im2 h2
theorem bX10_soonest_18 {d : Nat} {b : Nat × Nat}  {im : XI} {Q : Option Value → XS → XI → Prop} {l1 : Int32} {P : Int32 → XI → Prop}  (hs : SpI mX10_doneBy d [.ref 0, .int l1, .int (200 : Int32)] SM im P) (k : ∀ x2 im2, P x2 im2 → V mX10_soonest (d + 1) b 26 [some (.ref 0), some (.int l1), none] [.int x2] SM im2 Q) : V mX10_soonest (d + 1) b 18 [some (.ref 0), some (.int l1), none] [] SM im Q := by
  refine V.aload_n dX10_soonest_18 rfl rfl ?_
  refine V.iload_n dX10_soonest_19 rfl rfl ?_
  refine V.sipush (v := 200) dX10_soonest_20 (by decide) ?_
  refine V.cVI rfl vX10_doneBy lkX10_200 wX10_doneBy (ci := 10) rfl (by rfl) (As := [.int l1, .int (200 : Int32)]) rfl rfl rfl dX10_soonest_23 hs (fun x2 im2 h2 => ?_)
  exact k x2 im2 h2
theorem bX10_soonest_26 {d : Nat} {b : Nat × Nat}  {im : XI} {Q : Option Value → XS → XI → Prop} {l1 : Int32} {s0 : Int32}  (kt : ¬ s0 = (-1 : Int32) → V mX10_soonest d b 40 [some (.ref 0), some (.int l1), some (.int s0)] [] SM im Q) (kf : s0 = (-1 : Int32) → V mX10_soonest d b 32 [some (.ref 0), some (.int l1), some (.int s0)] [] SM im Q) : V mX10_soonest d b 26 [some (.ref 0), some (.int l1), none] [.int s0] SM im Q := by
  refine V.istore_n dX10_soonest_26 rfl rfl rfl ?_
  refine V.iload_n dX10_soonest_27 rfl rfl ?_
  refine V.iconst (v := -1) dX10_soonest_28 (by decide) ?_
  refine V.icmp_ne (tgt := 40) dX10_soonest_29 (by decide) (fun h => ?_) (fun h => ?_)
  · exact kt h
  · exact kf h
theorem bX10_soonest_32 {d : Nat} {b : Nat × Nat}  {im : XI} {Q : Option Value → XS → XI → Prop} {l1 : Int32} {l2 : Int32} {P : Int32 → XI → Prop}  (hs : SpI mX10_error d [.ref 0, .int (2 : Int32)] SM im P) (k : ∀ x2 im2, P x2 im2 → V mX10_soonest (d + 1) b 37 [some (.ref 0), some (.int l1), some (.int l2)] [.int x2] SM im2 Q) : V mX10_soonest (d + 1) b 32 [some (.ref 0), some (.int l1), some (.int l2)] [] SM im Q := by
  refine V.aload_n dX10_soonest_32 rfl rfl ?_
  refine V.iconst (v := 2) dX10_soonest_33 (by decide) ?_
  refine V.cVI rfl vX10_error lkX10_51 wX10_error (ci := 10) rfl (by rfl) (As := [.int (2 : Int32)]) rfl rfl rfl dX10_soonest_34 hs (fun x2 im2 h2 => ?_)
  exact k x2 im2 h2
theorem bX10_soonest_37 {d : Nat} {b : Nat × Nat}  {im : XI} {Q : Option Value → XS → XI → Prop} {l1 : Int32} {l2 : Int32} {s0 : Int32}  (k : V mX10_soonest d b 41 [some (.ref 0), some (.int l1), some (.int l2)] [.int s0] SM im Q) : V mX10_soonest d b 37 [some (.ref 0), some (.int l1), some (.int l2)] [.int s0] SM im Q := by
  refine V.goto (tgt := 41) dX10_soonest_37 (by decide) ?_
  exact k
theorem bX10_soonest_40 {d : Nat} {b : Nat × Nat}  {im : XI} {Q : Option Value → XS → XI → Prop} {l1 : Int32} {l2 : Int32}  (k : V mX10_soonest d b 41 [some (.ref 0), some (.int l1), some (.int l2)] [.int l2] SM im Q) : V mX10_soonest d b 40 [some (.ref 0), some (.int l1), some (.int l2)] [] SM im Q := by
  refine V.iload_n dX10_soonest_40 rfl rfl ?_
  exact k
theorem bX10_soonest_41 {d : Nat} {b : Nat × Nat}  {im : XI} {Q : Option Value → XS → XI → Prop} {l1 : Int32} {l2 : Int32} {s0 : Int32}  (hq : Q (some (.int s0)) SM im) : V mX10_soonest d b 41 [some (.ref 0), some (.int l1), some (.int l2)] [.int s0] SM im Q := by
  exact V.iret rfl dX10_soonest_41 hq
theorem bX10_isMoment_0 {d : Nat} {b : Nat × Nat}  {im : XI} {Q : Option Value → XS → XI → Prop} {l1 : Int32}  (k : V mX10_isMoment d b 4 [some (.ref 0), some (.int l1), some (.int (1 : Int32)), some (.int (0 : Int32))] [] SM im Q) : V mX10_isMoment d b 0 [some (.ref 0), some (.int l1), none, none] [] SM im Q := by
  refine V.iconst (v := 1) dX10_isMoment_0 (by decide) ?_
  refine V.istore_n dX10_isMoment_1 rfl rfl rfl ?_
  refine V.iconst (v := 0) dX10_isMoment_2 (by decide) ?_
  refine V.istore_n dX10_isMoment_3 rfl rfl rfl ?_
  exact k
theorem bX10_isMoment_4 {d : Nat} {b : Nat × Nat}  {im : XI} {Q : Option Value → XS → XI → Prop} {l1 : Int32} {l2 : Int32} {l3 : Int32}  (kt : (im 1 4) ≤ l3 → V mX10_isMoment d b 47 [some (.ref 0), some (.int l1), some (.int l2), some (.int l3)] [] SM im Q) (kf : ¬ (im 1 4) ≤ l3 → V mX10_isMoment d b 14 [some (.ref 0), some (.int l1), some (.int l2), some (.int l3)] [] SM im Q) : V mX10_isMoment d b 4 [some (.ref 0), some (.int l1), some (.int l2), some (.int l3)] [] SM im Q := by
  refine V.iload_n dX10_isMoment_4 rfl rfl ?_
  refine V.aload_n dX10_isMoment_5 rfl rfl ?_
  refine V.getR fX10_7 rfl (by rfl) (by rfl) dX10_isMoment_6 ?_
  refine V.iconst (v := 4) dX10_isMoment_9 (by decide) ?_
  refine V.iald (i := 4) ⟨by rfl, by rfl⟩ (by rfl) (by decide) dX10_isMoment_10 ?_
  refine V.icmp_ge (tgt := 47) dX10_isMoment_11 (by decide) (fun h => ?_) (fun h => ?_)
  · exact kt h
  · exact kf h
theorem bX10_isMoment_14 {d : Nat} {b : Nat × Nat}  {im : XI} {Q : Option Value → XS → XI → Prop} {l1 : Int32} {l2 : Int32} {l3 : Int32}  (kt : l2 = 0 → V mX10_isMoment d b 47 [some (.ref 0), some (.int l1), some (.int l2), some (.int l3)] [] SM im Q) (kf : ¬ l2 = 0 → V mX10_isMoment d b 18 [some (.ref 0), some (.int l1), some (.int l2), some (.int l3)] [] SM im Q) : V mX10_isMoment d b 14 [some (.ref 0), some (.int l1), some (.int l2), some (.int l3)] [] SM im Q := by
  refine V.iload_n dX10_isMoment_14 rfl rfl ?_
  refine V.if_eq (tgt := 47) dX10_isMoment_15 (by decide) (fun h => ?_) (fun h => ?_)
  · exact kt h
  · exact kf h
theorem bX10_isMoment_18 {d : Nat} {b : Nat × Nat}  {im : XI} {Q : Option Value → XS → XI → Prop} {l1 : Int32} {l2 : Int32} {l3 : Int32}  (kt : ((l1 >>> (l3 &&& 31)) &&& (1 : Int32)) = 0 → V mX10_isMoment d b 35 [some (.ref 0), some (.int l1), some (.int l2), some (.int l3)] [] SM im Q) (kf : ¬ ((l1 >>> (l3 &&& 31)) &&& (1 : Int32)) = 0 → V mX10_isMoment d b 26 [some (.ref 0), some (.int l1), some (.int l2), some (.int l3)] [] SM im Q) : V mX10_isMoment d b 18 [some (.ref 0), some (.int l1), some (.int l2), some (.int l3)] [] SM im Q := by
  refine V.iload_n dX10_isMoment_18 rfl rfl ?_
  refine V.iload_n dX10_isMoment_19 rfl rfl ?_
  refine V.ishr dX10_isMoment_20 ?_
  refine V.iconst (v := 1) dX10_isMoment_21 (by decide) ?_
  refine V.iand dX10_isMoment_22 ?_
  refine V.if_eq (tgt := 35) dX10_isMoment_23 (by decide) (fun h => ?_) (fun h => ?_)
  · exact kt h
  · exact kf h
theorem bX10_isMoment_26 {d : Nat} {b : Nat × Nat}  {im : XI} {Q : Option Value → XS → XI → Prop} {l1 : Int32} {l2 : Int32} {l3 : Int32} {P : Int32 → XI → Prop}  (hs : SpI mX10_shutOf d [.ref 0, .int l3] SM im P) (k : ∀ x2 im2, P x2 im2 → V mX10_isMoment (d + 1) b 31 [some (.ref 0), some (.int l1), some (.int l2), some (.int l3)] [.int x2] SM im2 Q) : V mX10_isMoment (d + 1) b 26 [some (.ref 0), some (.int l1), some (.int l2), some (.int l3)] [] SM im Q := by
  refine V.aload_n dX10_isMoment_26 rfl rfl ?_
  refine V.iload_n dX10_isMoment_27 rfl rfl ?_
  refine V.cVI rfl vX10_shutOf lkX10_127 wX10_shutOf (ci := 10) rfl (by rfl) (As := [.int l3]) rfl rfl rfl dX10_isMoment_28 hs (fun x2 im2 h2 => ?_)
  exact k x2 im2 h2
theorem bX10_isMoment_31 {d : Nat} {b : Nat × Nat}  {im : XI} {Q : Option Value → XS → XI → Prop} {l1 : Int32} {l2 : Int32} {l3 : Int32} {s0 : Int32}  (kt : ¬ s0 = (1 : Int32) → V mX10_isMoment d b 39 [some (.ref 0), some (.int l1), some (.int l2), some (.int l3)] [] SM im Q) (kf : s0 = (1 : Int32) → V mX10_isMoment d b 35 [some (.ref 0), some (.int l1), some (.int l2), some (.int l3)] [] SM im Q) : V mX10_isMoment d b 31 [some (.ref 0), some (.int l1), some (.int l2), some (.int l3)] [.int s0] SM im Q := by
  refine V.iconst (v := 1) dX10_isMoment_31 (by decide) ?_
  refine V.icmp_ne (tgt := 39) dX10_isMoment_32 (by decide) (fun h => ?_) (fun h => ?_)
  · exact kt h
  · exact kf h
theorem bX10_isMoment_35 {d : Nat} {b : Nat × Nat}  {im : XI} {Q : Option Value → XS → XI → Prop} {l1 : Int32} {l2 : Int32} {l3 : Int32}  (k : V mX10_isMoment d b 40 [some (.ref 0), some (.int l1), some (.int l2), some (.int l3)] [.int (1 : Int32)] SM im Q) : V mX10_isMoment d b 35 [some (.ref 0), some (.int l1), some (.int l2), some (.int l3)] [] SM im Q := by
  refine V.iconst (v := 1) dX10_isMoment_35 (by decide) ?_
  refine V.goto (tgt := 40) dX10_isMoment_36 (by decide) ?_
  exact k
theorem bX10_isMoment_39 {d : Nat} {b : Nat × Nat}  {im : XI} {Q : Option Value → XS → XI → Prop} {l1 : Int32} {l2 : Int32} {l3 : Int32}  (k : V mX10_isMoment d b 40 [some (.ref 0), some (.int l1), some (.int l2), some (.int l3)] [.int (0 : Int32)] SM im Q) : V mX10_isMoment d b 39 [some (.ref 0), some (.int l1), some (.int l2), some (.int l3)] [] SM im Q := by
  refine V.iconst (v := 0) dX10_isMoment_39 (by decide) ?_
  exact k
theorem bX10_isMoment_40 {d : Nat} {b : Nat × Nat}  {im : XI} {Q : Option Value → XS → XI → Prop} {l1 : Int32} {l2 : Int32} {l3 : Int32} {s0 : Int32}  (k : V mX10_isMoment d b 4 [some (.ref 0), some (.int l1), some (.int s0), some (.int (l3 + (1 : Int32)))] [] SM im Q) : V mX10_isMoment d b 40 [some (.ref 0), some (.int l1), some (.int l2), some (.int l3)] [.int s0] SM im Q := by
  refine V.istore_n dX10_isMoment_40 rfl rfl rfl ?_
  refine V.iinc (v := (l3 + (1 : Int32))) dX10_isMoment_41 rfl rfl rfl ?_
  refine V.goto (tgt := 4) dX10_isMoment_44 (by decide) ?_
  exact k
theorem bX10_isMoment_47 {d : Nat} {b : Nat × Nat}  {im : XI} {Q : Option Value → XS → XI → Prop} {l1 : Int32} {l2 : Int32} {l3 : Int32} (g0 : l2 = 0 ∨ l2 = 1) (hq : Q (some (.int l2)) SM im) : V mX10_isMoment d b 47 [some (.ref 0), some (.int l1), some (.int l2), some (.int l3)] [] SM im Q := by
  refine V.iload_n dX10_isMoment_47 rfl rfl ?_
  exact V.zret rfl g0 dX10_isMoment_48 hq
theorem bX10_moment_0 {d : Nat} {b : Nat × Nat}  {im : XI} {Q : Option Value → XS → XI → Prop} {l1 : Int32} {P : Int32 → XI → Prop}  (hs : SpI mX10_isSet d [.ref 0, .int l1] SM im P) (k : ∀ x2 im2, P x2 im2 → V mX10_moment (d + 1) b 5 [some (.ref 0), some (.int l1), none, none] [.int x2] SM im2 Q) : V mX10_moment (d + 1) b 0 [some (.ref 0), some (.int l1), none, none] [] SM im Q := by
  refine V.aload_n dX10_moment_0 rfl rfl ?_
  refine V.iload_n dX10_moment_1 rfl rfl ?_
  refine V.cVI rfl vX10_isSet lkX10_175 wX10_isSet (ci := 10) rfl (by rfl) (As := [.int l1]) rfl rfl rfl dX10_moment_2 hs (fun x2 im2 h2 => ?_)
  exact k x2 im2 h2
theorem bX10_moment_5 {d : Nat} {b : Nat × Nat}  {im : XI} {Q : Option Value → XS → XI → Prop} {l1 : Int32} {s0 : Int32}  (kt : ¬ s0 = 0 → V mX10_moment d b 14 [some (.ref 0), some (.int l1), none, none] [] SM im Q) (kf : s0 = 0 → V mX10_moment d b 8 [some (.ref 0), some (.int l1), none, none] [] SM im Q) : V mX10_moment d b 5 [some (.ref 0), some (.int l1), none, none] [.int s0] SM im Q := by
  refine V.if_ne (tgt := 14) dX10_moment_5 (by decide) (fun h => ?_) (fun h => ?_)
  · exact kt h
  · exact kf h
theorem bX10_moment_8 {d : Nat} {b : Nat × Nat}  {im : XI} {Q : Option Value → XS → XI → Prop} {l1 : Int32} {P : Int32 → XI → Prop}  (hs : SpI mX10_error d [.ref 0, .int (1 : Int32)] SM im P) (k : ∀ x2 im2, P x2 im2 → V mX10_moment (d + 1) b 13 [some (.ref 0), some (.int l1), none, none] [.int x2] SM im2 Q) : V mX10_moment (d + 1) b 8 [some (.ref 0), some (.int l1), none, none] [] SM im Q := by
  refine V.aload_n dX10_moment_8 rfl rfl ?_
  refine V.iconst (v := 1) dX10_moment_9 (by decide) ?_
  refine V.cVI rfl vX10_error lkX10_51 wX10_error (ci := 10) rfl (by rfl) (As := [.int (1 : Int32)]) rfl rfl rfl dX10_moment_10 hs (fun x2 im2 h2 => ?_)
  exact k x2 im2 h2
theorem bX10_moment_13 {d : Nat} {b : Nat × Nat}  {im : XI} {Q : Option Value → XS → XI → Prop} {l1 : Int32} {s0 : Int32}  (hq : Q (some (.int s0)) SM im) : V mX10_moment d b 13 [some (.ref 0), some (.int l1), none, none] [.int s0] SM im Q := by
  exact V.iret rfl dX10_moment_13 hq
theorem bX10_moment_14 {d : Nat} {b : Nat × Nat}  {im : XI} {Q : Option Value → XS → XI → Prop} {l1 : Int32}  (k : V mX10_moment d b 23 [some (.ref 0), some (.int l1), some (.int (im 1 0)), some (.int (0 : Int32))] [] SM im Q) : V mX10_moment d b 14 [some (.ref 0), some (.int l1), none, none] [] SM im Q := by
  refine V.aload_n dX10_moment_14 rfl rfl ?_
  refine V.getR fX10_7 rfl (by rfl) (by rfl) dX10_moment_15 ?_
  refine V.iconst (v := 0) dX10_moment_18 (by decide) ?_
  refine V.iald (i := 0) ⟨by rfl, by rfl⟩ (by rfl) (by decide) dX10_moment_19 ?_
  refine V.istore_n dX10_moment_20 rfl rfl rfl ?_
  refine V.iconst (v := 0) dX10_moment_21 (by decide) ?_
  refine V.istore_n dX10_moment_22 rfl rfl rfl ?_
  exact k
theorem bX10_moment_23 {d : Nat} {b : Nat × Nat}  {im : XI} {Q : Option Value → XS → XI → Prop} {l1 : Int32} {l2 : Int32} {l3 : Int32}  (kt : (400 : Int32) < l3 → V mX10_moment d b 54 [some (.ref 0), some (.int l1), some (.int l2), some (.int l3)] [] SM im Q) (kf : ¬ (400 : Int32) < l3 → V mX10_moment d b 30 [some (.ref 0), some (.int l1), some (.int l2), some (.int l3)] [] SM im Q) : V mX10_moment d b 23 [some (.ref 0), some (.int l1), some (.int l2), some (.int l3)] [] SM im Q := by
  refine V.iload_n dX10_moment_23 rfl rfl ?_
  refine V.sipush (v := 400) dX10_moment_24 (by decide) ?_
  refine V.icmp_gt (tgt := 54) dX10_moment_27 (by decide) (fun h => ?_) (fun h => ?_)
  · exact kt h
  · exact kf h
theorem bX10_moment_30 {d : Nat} {b : Nat × Nat}  {im : XI} {Q : Option Value → XS → XI → Prop} {l1 : Int32} {l2 : Int32} {l3 : Int32} {P : Int32 → XI → Prop}  (hs : SpI mX10_isMoment d [.ref 0, .int l1] SM im P) (k : ∀ x2 im2, P x2 im2 → V mX10_moment (d + 1) b 35 [some (.ref 0), some (.int l1), some (.int l2), some (.int l3)] [.int x2] SM im2 Q) : V mX10_moment (d + 1) b 30 [some (.ref 0), some (.int l1), some (.int l2), some (.int l3)] [] SM im Q := by
  refine V.aload_n dX10_moment_30 rfl rfl ?_
  refine V.iload_n dX10_moment_31 rfl rfl ?_
  refine V.cVI rfl vX10_isMoment lkX10_203 wX10_isMoment (ci := 10) rfl (by rfl) (As := [.int l1]) rfl rfl rfl dX10_moment_32 hs (fun x2 im2 h2 => ?_)
  exact k x2 im2 h2
theorem bX10_moment_35 {d : Nat} {b : Nat × Nat}  {im : XI} {Q : Option Value → XS → XI → Prop} {l1 : Int32} {l2 : Int32} {l3 : Int32} {s0 : Int32}  (kt : ¬ s0 = 0 → V mX10_moment d b 54 [some (.ref 0), some (.int l1), some (.int l2), some (.int l3)] [] SM im Q) (kf : s0 = 0 → V mX10_moment d b 38 [some (.ref 0), some (.int l1), some (.int l2), some (.int l3)] [] SM im Q) : V mX10_moment d b 35 [some (.ref 0), some (.int l1), some (.int l2), some (.int l3)] [.int s0] SM im Q := by
  refine V.if_ne (tgt := 54) dX10_moment_35 (by decide) (fun h => ?_) (fun h => ?_)
  · exact kt h
  · exact kf h
theorem bX10_moment_38 {d : Nat} {b : Nat × Nat}  {im : XI} {Q : Option Value → XS → XI → Prop} {l1 : Int32} {l2 : Int32} {l3 : Int32}  (k : V mX10_moment d b 23 [some (.ref 0), some (.int l1), some (.int l2), some (.int (l3 + (1 : Int32)))] [] SM (xup im 1 0 ((im 1 0) + (1 : Int32))) Q) : V mX10_moment d b 38 [some (.ref 0), some (.int l1), some (.int l2), some (.int l3)] [] SM im Q := by
  refine V.aload_n dX10_moment_38 rfl rfl ?_
  refine V.getR fX10_7 rfl (by rfl) (by rfl) dX10_moment_39 ?_
  refine V.iconst (v := 0) dX10_moment_42 (by decide) ?_
  refine V.dup2 dX10_moment_43 rfl rfl ?_
  refine V.iald (i := 0) ⟨by rfl, by rfl⟩ (by rfl) (by decide) dX10_moment_44 ?_
  refine V.iconst (v := 1) dX10_moment_45 (by decide) ?_
  refine V.iadd dX10_moment_46 ?_
  refine V.iast (i := 0) ⟨by rfl, by rfl⟩ (by rfl) (by decide) dX10_moment_47 ?_
  refine V.iinc (v := (l3 + (1 : Int32))) dX10_moment_48 rfl rfl rfl ?_
  refine V.goto (tgt := 23) dX10_moment_51 (by decide) ?_
  exact k
theorem bX10_moment_54 {d : Nat} {b : Nat × Nat}  {im : XI} {Q : Option Value → XS → XI → Prop} {l1 : Int32} {l2 : Int32} {l3 : Int32}  (kt : l3 ≤ (400 : Int32) → V mX10_moment d b 76 [some (.ref 0), some (.int l1), some (.int l2), some (.int l3)] [] SM (xup im 1 0 l2) Q) (kf : ¬ l3 ≤ (400 : Int32) → V mX10_moment d b 68 [some (.ref 0), some (.int l1), some (.int l2), some (.int l3)] [] SM (xup im 1 0 l2) Q) : V mX10_moment d b 54 [some (.ref 0), some (.int l1), some (.int l2), some (.int l3)] [] SM im Q := by
  refine V.aload_n dX10_moment_54 rfl rfl ?_
  refine V.getR fX10_7 rfl (by rfl) (by rfl) dX10_moment_55 ?_
  refine V.iconst (v := 0) dX10_moment_58 (by decide) ?_
  refine V.iload_n dX10_moment_59 rfl rfl ?_
  refine V.iast (i := 0) ⟨by rfl, by rfl⟩ (by rfl) (by decide) dX10_moment_60 ?_
  refine V.iload_n dX10_moment_61 rfl rfl ?_
  refine V.sipush (v := 400) dX10_moment_62 (by decide) ?_
  refine V.icmp_le (tgt := 76) dX10_moment_65 (by decide) (fun h => ?_) (fun h => ?_)
  · exact kt h
  · exact kf h
theorem bX10_moment_68 {d : Nat} {b : Nat × Nat}  {im : XI} {Q : Option Value → XS → XI → Prop} {l1 : Int32} {l2 : Int32} {l3 : Int32} {P : Int32 → XI → Prop}  (hs : SpI mX10_error d [.ref 0, .int (2 : Int32)] SM im P) (k : ∀ x2 im2, P x2 im2 → V mX10_moment (d + 1) b 73 [some (.ref 0), some (.int l1), some (.int l2), some (.int l3)] [.int x2] SM im2 Q) : V mX10_moment (d + 1) b 68 [some (.ref 0), some (.int l1), some (.int l2), some (.int l3)] [] SM im Q := by
  refine V.aload_n dX10_moment_68 rfl rfl ?_
  refine V.iconst (v := 2) dX10_moment_69 (by decide) ?_
  refine V.cVI rfl vX10_error lkX10_51 wX10_error (ci := 10) rfl (by rfl) (As := [.int (2 : Int32)]) rfl rfl rfl dX10_moment_70 hs (fun x2 im2 h2 => ?_)
  exact k x2 im2 h2
theorem bX10_moment_73 {d : Nat} {b : Nat × Nat}  {im : XI} {Q : Option Value → XS → XI → Prop} {l1 : Int32} {l2 : Int32} {l3 : Int32} {s0 : Int32}  (k : V mX10_moment d b 77 [some (.ref 0), some (.int l1), some (.int l2), some (.int l3)] [.int s0] SM im Q) : V mX10_moment d b 73 [some (.ref 0), some (.int l1), some (.int l2), some (.int l3)] [.int s0] SM im Q := by
  refine V.goto (tgt := 77) dX10_moment_73 (by decide) ?_
  exact k
theorem bX10_moment_76 {d : Nat} {b : Nat × Nat}  {im : XI} {Q : Option Value → XS → XI → Prop} {l1 : Int32} {l2 : Int32} {l3 : Int32}  (k : V mX10_moment d b 77 [some (.ref 0), some (.int l1), some (.int l2), some (.int l3)] [.int l3] SM im Q) : V mX10_moment d b 76 [some (.ref 0), some (.int l1), some (.int l2), some (.int l3)] [] SM im Q := by
  refine V.iload_n dX10_moment_76 rfl rfl ?_
  exact k
theorem bX10_moment_77 {d : Nat} {b : Nat × Nat}  {im : XI} {Q : Option Value → XS → XI → Prop} {l1 : Int32} {l2 : Int32} {l3 : Int32} {s0 : Int32}  (hq : Q (some (.int s0)) SM im) : V mX10_moment d b 77 [some (.ref 0), some (.int l1), some (.int l2), some (.int l3)] [.int s0] SM im Q := by
  exact V.iret rfl dX10_moment_77 hq
theorem bX10_momentsOf_0 {d : Nat} {b : Nat × Nat}  {im : XI} {Q : Option Value → XS → XI → Prop} {l1 : Int32} {l2 : Int32}  (k : V mX10_momentsOf d b 13 [some (.ref 0), some (.int l1), some (.int l2), some (.int (im 1 0)), some (.int (0 : Int32)), some (.int (0 : Int32))] [] SM im Q) : V mX10_momentsOf d b 0 [some (.ref 0), some (.int l1), some (.int l2), none, none, none] [] SM im Q := by
  refine V.aload_n dX10_momentsOf_0 rfl rfl ?_
  refine V.getR fX10_7 rfl (by rfl) (by rfl) dX10_momentsOf_1 ?_
  refine V.iconst (v := 0) dX10_momentsOf_4 (by decide) ?_
  refine V.iald (i := 0) ⟨by rfl, by rfl⟩ (by rfl) (by decide) dX10_momentsOf_5 ?_
  refine V.istore_n dX10_momentsOf_6 rfl rfl rfl ?_
  refine V.iconst (v := 0) dX10_momentsOf_7 (by decide) ?_
  refine V.istore dX10_momentsOf_8 rfl rfl ?_
  refine V.iconst (v := 0) dX10_momentsOf_10 (by decide) ?_
  refine V.istore dX10_momentsOf_11 rfl rfl ?_
  exact k
theorem bX10_momentsOf_13 {d : Nat} {b : Nat × Nat}  {im : XI} {Q : Option Value → XS → XI → Prop} {l1 : Int32} {l2 : Int32} {l3 : Int32} {l4 : Int32} {l5 : Int32}  (kt : l2 ≤ l5 → V mX10_momentsOf d b 53 [some (.ref 0), some (.int l1), some (.int l2), some (.int l3), some (.int l4), some (.int l5)] [] SM im Q) (kf : ¬ l2 ≤ l5 → V mX10_momentsOf d b 19 [some (.ref 0), some (.int l1), some (.int l2), some (.int l3), some (.int l4), some (.int l5)] [] SM im Q) : V mX10_momentsOf d b 13 [some (.ref 0), some (.int l1), some (.int l2), some (.int l3), some (.int l4), some (.int l5)] [] SM im Q := by
  refine V.iload dX10_momentsOf_13 rfl ?_
  refine V.iload_n dX10_momentsOf_15 rfl rfl ?_
  refine V.icmp_ge (tgt := 53) dX10_momentsOf_16 (by decide) (fun h => ?_) (fun h => ?_)
  · exact kt h
  · exact kf h
theorem bX10_momentsOf_19 {d : Nat} {b : Nat × Nat}  {im : XI} {Q : Option Value → XS → XI → Prop} {l1 : Int32} {l2 : Int32} {l3 : Int32} {l4 : Int32} {l5 : Int32} {P : Int32 → XI → Prop}  (hs : SpI mX10_isMoment d [.ref 0, .int l1] SM im P) (k : ∀ x2 im2, P x2 im2 → V mX10_momentsOf (d + 1) b 26 [some (.ref 0), some (.int l1), some (.int l2), some (.int l3), some (.int l4), some (.int l5)] [.int x2, .int l4] SM im2 Q) : V mX10_momentsOf (d + 1) b 19 [some (.ref 0), some (.int l1), some (.int l2), some (.int l3), some (.int l4), some (.int l5)] [] SM im Q := by
  refine V.iload dX10_momentsOf_19 rfl ?_
  refine V.aload_n dX10_momentsOf_21 rfl rfl ?_
  refine V.iload_n dX10_momentsOf_22 rfl rfl ?_
  refine V.cVI rfl vX10_isMoment lkX10_203 wX10_isMoment (ci := 10) rfl (by rfl) (As := [.int l1]) rfl rfl rfl dX10_momentsOf_23 hs (fun x2 im2 h2 => ?_)
  exact k x2 im2 h2
theorem bX10_momentsOf_26 {d : Nat} {b : Nat × Nat}  {im : XI} {Q : Option Value → XS → XI → Prop} {l1 : Int32} {l2 : Int32} {l3 : Int32} {l4 : Int32} {l5 : Int32} {s0 : Int32} {s1 : Int32}  (kt : s1 = 0 → V mX10_momentsOf d b 33 [some (.ref 0), some (.int l1), some (.int l2), some (.int l3), some (.int l4), some (.int l5)] [.int s0] SM im Q) (kf : ¬ s1 = 0 → V mX10_momentsOf d b 29 [some (.ref 0), some (.int l1), some (.int l2), some (.int l3), some (.int l4), some (.int l5)] [.int s0] SM im Q) : V mX10_momentsOf d b 26 [some (.ref 0), some (.int l1), some (.int l2), some (.int l3), some (.int l4), some (.int l5)] [.int s1, .int s0] SM im Q := by
  refine V.if_eq (tgt := 33) dX10_momentsOf_26 (by decide) (fun h => ?_) (fun h => ?_)
  · exact kt h
  · exact kf h
theorem bX10_momentsOf_29 {d : Nat} {b : Nat × Nat}  {im : XI} {Q : Option Value → XS → XI → Prop} {l1 : Int32} {l2 : Int32} {l3 : Int32} {l4 : Int32} {l5 : Int32} {s0 : Int32}  (k : V mX10_momentsOf d b 34 [some (.ref 0), some (.int l1), some (.int l2), some (.int l3), some (.int l4), some (.int l5)] [.int (1 : Int32), .int s0] SM im Q) : V mX10_momentsOf d b 29 [some (.ref 0), some (.int l1), some (.int l2), some (.int l3), some (.int l4), some (.int l5)] [.int s0] SM im Q := by
  refine V.iconst (v := 1) dX10_momentsOf_29 (by decide) ?_
  refine V.goto (tgt := 34) dX10_momentsOf_30 (by decide) ?_
  exact k
theorem bX10_momentsOf_33 {d : Nat} {b : Nat × Nat}  {im : XI} {Q : Option Value → XS → XI → Prop} {l1 : Int32} {l2 : Int32} {l3 : Int32} {l4 : Int32} {l5 : Int32} {s0 : Int32}  (k : V mX10_momentsOf d b 34 [some (.ref 0), some (.int l1), some (.int l2), some (.int l3), some (.int l4), some (.int l5)] [.int (0 : Int32), .int s0] SM im Q) : V mX10_momentsOf d b 33 [some (.ref 0), some (.int l1), some (.int l2), some (.int l3), some (.int l4), some (.int l5)] [.int s0] SM im Q := by
  refine V.iconst (v := 0) dX10_momentsOf_33 (by decide) ?_
  exact k
theorem bX10_momentsOf_34 {d : Nat} {b : Nat × Nat}  {im : XI} {Q : Option Value → XS → XI → Prop} {l1 : Int32} {l2 : Int32} {l3 : Int32} {l4 : Int32} {l5 : Int32} {s0 : Int32} {s1 : Int32}  (k : V mX10_momentsOf d b 13 [some (.ref 0), some (.int l1), some (.int l2), some (.int l3), some (.int (s0 + s1)), some (.int (l5 + (1 : Int32)))] [] SM (xup im 1 0 ((im 1 0) + (1 : Int32))) Q) : V mX10_momentsOf d b 34 [some (.ref 0), some (.int l1), some (.int l2), some (.int l3), some (.int l4), some (.int l5)] [.int s1, .int s0] SM im Q := by
  refine V.iadd dX10_momentsOf_34 ?_
  refine V.istore dX10_momentsOf_35 rfl rfl ?_
  refine V.aload_n dX10_momentsOf_37 rfl rfl ?_
  refine V.getR fX10_7 rfl (by rfl) (by rfl) dX10_momentsOf_38 ?_
  refine V.iconst (v := 0) dX10_momentsOf_41 (by decide) ?_
  refine V.dup2 dX10_momentsOf_42 rfl rfl ?_
  refine V.iald (i := 0) ⟨by rfl, by rfl⟩ (by rfl) (by decide) dX10_momentsOf_43 ?_
  refine V.iconst (v := 1) dX10_momentsOf_44 (by decide) ?_
  refine V.iadd dX10_momentsOf_45 ?_
  refine V.iast (i := 0) ⟨by rfl, by rfl⟩ (by rfl) (by decide) dX10_momentsOf_46 ?_
  refine V.iinc (v := (l5 + (1 : Int32))) dX10_momentsOf_47 rfl rfl rfl ?_
  refine V.goto (tgt := 13) dX10_momentsOf_50 (by decide) ?_
  exact k
theorem bX10_momentsOf_53 {d : Nat} {b : Nat × Nat}  {im : XI} {Q : Option Value → XS → XI → Prop} {l1 : Int32} {l2 : Int32} {l3 : Int32} {l4 : Int32} {l5 : Int32}  (hq : Q (some (.int l4)) SM (xup im 1 0 l3)) : V mX10_momentsOf d b 53 [some (.ref 0), some (.int l1), some (.int l2), some (.int l3), some (.int l4), some (.int l5)] [] SM im Q := by
  refine V.aload_n dX10_momentsOf_53 rfl rfl ?_
  refine V.getR fX10_7 rfl (by rfl) (by rfl) dX10_momentsOf_54 ?_
  refine V.iconst (v := 0) dX10_momentsOf_57 (by decide) ?_
  refine V.iload_n dX10_momentsOf_58 rfl rfl ?_
  refine V.iast (i := 0) ⟨by rfl, by rfl⟩ (by rfl) (by decide) dX10_momentsOf_59 ?_
  refine V.iload dX10_momentsOf_60 rfl ?_
  exact V.iret rfl dX10_momentsOf_62 hq
theorem bX10_moments_0 {d : Nat} {b : Nat × Nat}  {im : XI} {Q : Option Value → XS → XI → Prop} {l1 : Int32} {l2 : Int32} {P : Int32 → XI → Prop}  (hs : SpI mX10_isSet d [.ref 0, .int l1] SM im P) (k : ∀ x2 im2, P x2 im2 → V mX10_moments (d + 1) b 5 [some (.ref 0), some (.int l1), some (.int l2)] [.int x2] SM im2 Q) : V mX10_moments (d + 1) b 0 [some (.ref 0), some (.int l1), some (.int l2)] [] SM im Q := by
  refine V.aload_n dX10_moments_0 rfl rfl ?_
  refine V.iload_n dX10_moments_1 rfl rfl ?_
  refine V.cVI rfl vX10_isSet lkX10_175 wX10_isSet (ci := 10) rfl (by rfl) (As := [.int l1]) rfl rfl rfl dX10_moments_2 hs (fun x2 im2 h2 => ?_)
  exact k x2 im2 h2
theorem bX10_moments_5 {d : Nat} {b : Nat × Nat}  {im : XI} {Q : Option Value → XS → XI → Prop} {l1 : Int32} {l2 : Int32} {s0 : Int32}  (kt : s0 = 0 → V mX10_moments d b 27 [some (.ref 0), some (.int l1), some (.int l2)] [] SM im Q) (kf : ¬ s0 = 0 → V mX10_moments d b 8 [some (.ref 0), some (.int l1), some (.int l2)] [] SM im Q) : V mX10_moments d b 5 [some (.ref 0), some (.int l1), some (.int l2)] [.int s0] SM im Q := by
  refine V.if_eq (tgt := 27) dX10_moments_5 (by decide) (fun h => ?_) (fun h => ?_)
  · exact kt h
  · exact kf h
theorem bX10_moments_8 {d : Nat} {b : Nat × Nat}  {im : XI} {Q : Option Value → XS → XI → Prop} {l1 : Int32} {l2 : Int32} {P : Int32 → XI → Prop}  (hs : SpI mX10_in d [.int l2, .int (0 : Int32), .int (99 : Int32)] SM im P) (k : ∀ x2 im2, P x2 im2 → V mX10_moments (d + 1) b 15 [some (.ref 0), some (.int l1), some (.int l2)] [.int x2] SM im2 Q) : V mX10_moments (d + 1) b 8 [some (.ref 0), some (.int l1), some (.int l2)] [] SM im Q := by
  refine V.iload_n dX10_moments_8 rfl rfl ?_
  refine V.iconst (v := 0) dX10_moments_9 (by decide) ?_
  refine V.bipush (v := 99) dX10_moments_10 (by decide) ?_
  refine V.cSI rfl vX10_in lkX10_47 sX10_in (As := [.int l2, .int (0 : Int32), .int (99 : Int32)]) rfl rfl rfl dX10_moments_12 hs (fun x2 im2 h2 => ?_)
  exact k x2 im2 h2
theorem bX10_moments_15 {d : Nat} {b : Nat × Nat}  {im : XI} {Q : Option Value → XS → XI → Prop} {l1 : Int32} {l2 : Int32} {s0 : Int32}  (kt : s0 = 0 → V mX10_moments d b 27 [some (.ref 0), some (.int l1), some (.int l2)] [] SM im Q) (kf : ¬ s0 = 0 → V mX10_moments d b 18 [some (.ref 0), some (.int l1), some (.int l2)] [] SM im Q) : V mX10_moments d b 15 [some (.ref 0), some (.int l1), some (.int l2)] [.int s0] SM im Q := by
  refine V.if_eq (tgt := 27) dX10_moments_15 (by decide) (fun h => ?_) (fun h => ?_)
  · exact kt h
  · exact kf h
theorem bX10_moments_18 {d : Nat} {b : Nat × Nat}  {im : XI} {Q : Option Value → XS → XI → Prop} {l1 : Int32} {l2 : Int32} {P : Int32 → XI → Prop}  (hs : SpI mX10_momentsOf d [.ref 0, .int l1, .int l2] SM im P) (k : ∀ x2 im2, P x2 im2 → V mX10_moments (d + 1) b 24 [some (.ref 0), some (.int l1), some (.int l2)] [.int x2] SM im2 Q) : V mX10_moments (d + 1) b 18 [some (.ref 0), some (.int l1), some (.int l2)] [] SM im Q := by
  refine V.aload_n dX10_moments_18 rfl rfl ?_
  refine V.iload_n dX10_moments_19 rfl rfl ?_
  refine V.iload_n dX10_moments_20 rfl rfl ?_
  refine V.cVI rfl vX10_momentsOf lkX10_206 wX10_momentsOf (ci := 10) rfl (by rfl) (As := [.int l1, .int l2]) rfl rfl rfl dX10_moments_21 hs (fun x2 im2 h2 => ?_)
  exact k x2 im2 h2
theorem bX10_moments_24 {d : Nat} {b : Nat × Nat}  {im : XI} {Q : Option Value → XS → XI → Prop} {l1 : Int32} {l2 : Int32} {s0 : Int32}  (k : V mX10_moments d b 32 [some (.ref 0), some (.int l1), some (.int l2)] [.int s0] SM im Q) : V mX10_moments d b 24 [some (.ref 0), some (.int l1), some (.int l2)] [.int s0] SM im Q := by
  refine V.goto (tgt := 32) dX10_moments_24 (by decide) ?_
  exact k
theorem bX10_moments_27 {d : Nat} {b : Nat × Nat}  {im : XI} {Q : Option Value → XS → XI → Prop} {l1 : Int32} {l2 : Int32} {P : Int32 → XI → Prop}  (hs : SpI mX10_error d [.ref 0, .int (1 : Int32)] SM im P) (k : ∀ x2 im2, P x2 im2 → V mX10_moments (d + 1) b 32 [some (.ref 0), some (.int l1), some (.int l2)] [.int x2] SM im2 Q) : V mX10_moments (d + 1) b 27 [some (.ref 0), some (.int l1), some (.int l2)] [] SM im Q := by
  refine V.aload_n dX10_moments_27 rfl rfl ?_
  refine V.iconst (v := 1) dX10_moments_28 (by decide) ?_
  refine V.cVI rfl vX10_error lkX10_51 wX10_error (ci := 10) rfl (by rfl) (As := [.int (1 : Int32)]) rfl rfl rfl dX10_moments_29 hs (fun x2 im2 h2 => ?_)
  exact k x2 im2 h2
theorem bX10_moments_32 {d : Nat} {b : Nat × Nat}  {im : XI} {Q : Option Value → XS → XI → Prop} {l1 : Int32} {l2 : Int32} {s0 : Int32}  (hq : Q (some (.int s0)) SM im) : V mX10_moments d b 32 [some (.ref 0), some (.int l1), some (.int l2)] [.int s0] SM im Q := by
  exact V.iret rfl dX10_moments_32 hq
theorem bX10_isDoneWithout_0 {d : Nat} {b : Nat × Nat}  {im : XI} {Q : Option Value → XS → XI → Prop} {l1 : Int32} {l2 : Int32} {l3 : Int32} {P : XI → Prop}  (hs : SpV mX10_layDown d [.ref 0] SM im P) (k : ∀ im2, P im2 → V mX10_isDoneWithout (d + 1) b 4 [some (.ref 0), some (.int l1), some (.int l2), some (.int l3)] [] SM im2 Q) : V mX10_isDoneWithout (d + 1) b 0 [some (.ref 0), some (.int l1), some (.int l2), some (.int l3)] [] SM im Q := by
  refine V.aload_n dX10_isDoneWithout_0 rfl rfl ?_
  refine V.cVV rfl vX10_layDown lkX10_194 wX10_layDown (ci := 10) rfl (by rfl) (As := []) rfl rfl rfl dX10_isDoneWithout_1 hs (fun im2 h2 => ?_)
  exact k im2 h2
theorem bX10_isDoneWithout_4 {d : Nat} {b : Nat × Nat}  {im : XI} {Q : Option Value → XS → XI → Prop} {l1 : Int32} {l2 : Int32} {l3 : Int32} {P : Int32 → XI → Prop}  (hs : SpI mX10_ofDoing d [.ref 0, .int l1, .int (2 : Int32)] SM im P) (k : ∀ x2 im2, P x2 im2 → V mX10_isDoneWithout (d + 1) b 13 [some (.ref 0), some (.int l1), some (.int l2), some (.int l3)] [.int x2, .int (2 : Int32), .int l1, .ref 0] SM im2 Q) : V mX10_isDoneWithout (d + 1) b 4 [some (.ref 0), some (.int l1), some (.int l2), some (.int l3)] [] SM im Q := by
  refine V.aload_n dX10_isDoneWithout_4 rfl rfl ?_
  refine V.iload_n dX10_isDoneWithout_5 rfl rfl ?_
  refine V.iconst (v := 2) dX10_isDoneWithout_6 (by decide) ?_
  refine V.aload_n dX10_isDoneWithout_7 rfl rfl ?_
  refine V.iload_n dX10_isDoneWithout_8 rfl rfl ?_
  refine V.iconst (v := 2) dX10_isDoneWithout_9 (by decide) ?_
  refine V.cVI rfl vX10_ofDoing lkX10_130 wX10_ofDoing (ci := 10) rfl (by rfl) (As := [.int l1, .int (2 : Int32)]) rfl rfl rfl dX10_isDoneWithout_10 hs (fun x2 im2 h2 => ?_)
  exact k x2 im2 h2
theorem bX10_isDoneWithout_13 {d : Nat} {b : Nat × Nat}  {im : XI} {Q : Option Value → XS → XI → Prop} {l1 : Int32} {l2 : Int32} {l3 : Int32} {s0 : Nat} {s1 : Int32} {s2 : Int32} {s3 : Int32} {P : XI → Prop} (g0 : SM.1[s0]? = some (.inl 10)) (hs : SpV mX10_laysDoing d [.ref s0, .int s1, .int s2, .int (s3 &&& (l2 ^^^ (-1 : Int32)))] SM im P) (k : ∀ im2, P im2 → V mX10_isDoneWithout (d + 1) b 20 [some (.ref 0), some (.int l1), some (.int l2), some (.int l3)] [] SM im2 Q) : V mX10_isDoneWithout (d + 1) b 13 [some (.ref 0), some (.int l1), some (.int l2), some (.int l3)] [.int s3, .int s2, .int s1, .ref s0] SM im Q := by
  refine V.iload_n dX10_isDoneWithout_13 rfl rfl ?_
  refine V.iconst (v := -1) dX10_isDoneWithout_14 (by decide) ?_
  refine V.ixor dX10_isDoneWithout_15 ?_
  refine V.iand dX10_isDoneWithout_16 ?_
  refine V.cVV rfl vX10_laysDoing lkX10_145 wX10_laysDoing (ci := 10) rfl g0 (As := [.int s1, .int s2, .int (s3 &&& (l2 ^^^ (-1 : Int32)))]) rfl rfl rfl dX10_isDoneWithout_17 hs (fun im2 h2 => ?_)
  exact k im2 h2
theorem bX10_isDoneWithout_20 {d : Nat} {b : Nat × Nat}  {im : XI} {Q : Option Value → XS → XI → Prop} {l1 : Int32} {l2 : Int32} {l3 : Int32} {P : Int32 → XI → Prop}  (hs : SpI mX10_doneBy d [.ref 0, .int l1, .int l3] SM im P) (k : ∀ x2 im2, P x2 im2 → V mX10_isDoneWithout (d + 1) b 26 [some (.ref 0), some (.int l1), some (.int l2), some (.int l3)] [.int x2] SM im2 Q) : V mX10_isDoneWithout (d + 1) b 20 [some (.ref 0), some (.int l1), some (.int l2), some (.int l3)] [] SM im Q := by
  refine V.aload_n dX10_isDoneWithout_20 rfl rfl ?_
  refine V.iload_n dX10_isDoneWithout_21 rfl rfl ?_
  refine V.iload_n dX10_isDoneWithout_22 rfl rfl ?_
  refine V.cVI rfl vX10_doneBy lkX10_200 wX10_doneBy (ci := 10) rfl (by rfl) (As := [.int l1, .int l3]) rfl rfl rfl dX10_isDoneWithout_23 hs (fun x2 im2 h2 => ?_)
  exact k x2 im2 h2
theorem bX10_isDoneWithout_26 {d : Nat} {b : Nat × Nat}  {im : XI} {Q : Option Value → XS → XI → Prop} {l1 : Int32} {l2 : Int32} {l3 : Int32} {s0 : Int32}  (kt : s0 = (-1 : Int32) → V mX10_isDoneWithout d b 34 [some (.ref 0), some (.int l1), some (.int l2), some (.int l3)] [] SM im Q) (kf : ¬ s0 = (-1 : Int32) → V mX10_isDoneWithout d b 30 [some (.ref 0), some (.int l1), some (.int l2), some (.int l3)] [] SM im Q) : V mX10_isDoneWithout d b 26 [some (.ref 0), some (.int l1), some (.int l2), some (.int l3)] [.int s0] SM im Q := by
  refine V.iconst (v := -1) dX10_isDoneWithout_26 (by decide) ?_
  refine V.icmp_eq (tgt := 34) dX10_isDoneWithout_27 (by decide) (fun h => ?_) (fun h => ?_)
  · exact kt h
  · exact kf h
theorem bX10_isDoneWithout_30 {d : Nat} {b : Nat × Nat}  {im : XI} {Q : Option Value → XS → XI → Prop} {l1 : Int32} {l2 : Int32} {l3 : Int32}  (k : V mX10_isDoneWithout d b 35 [some (.ref 0), some (.int l1), some (.int l2), some (.int l3)] [.int (1 : Int32)] SM im Q) : V mX10_isDoneWithout d b 30 [some (.ref 0), some (.int l1), some (.int l2), some (.int l3)] [] SM im Q := by
  refine V.iconst (v := 1) dX10_isDoneWithout_30 (by decide) ?_
  refine V.goto (tgt := 35) dX10_isDoneWithout_31 (by decide) ?_
  exact k
theorem bX10_isDoneWithout_34 {d : Nat} {b : Nat × Nat}  {im : XI} {Q : Option Value → XS → XI → Prop} {l1 : Int32} {l2 : Int32} {l3 : Int32}  (k : V mX10_isDoneWithout d b 35 [some (.ref 0), some (.int l1), some (.int l2), some (.int l3)] [.int (0 : Int32)] SM im Q) : V mX10_isDoneWithout d b 34 [some (.ref 0), some (.int l1), some (.int l2), some (.int l3)] [] SM im Q := by
  refine V.iconst (v := 0) dX10_isDoneWithout_34 (by decide) ?_
  exact k
theorem bX10_isDoneWithout_35 {d : Nat} {b : Nat × Nat}  {im : XI} {Q : Option Value → XS → XI → Prop} {l1 : Int32} {l2 : Int32} {l3 : Int32} {s0 : Int32} (g0 : s0 = 0 ∨ s0 = 1) (hq : Q (some (.int s0)) SM im) : V mX10_isDoneWithout d b 35 [some (.ref 0), some (.int l1), some (.int l2), some (.int l3)] [.int s0] SM im Q := by
  exact V.zret rfl g0 dX10_isDoneWithout_35 hq
theorem bX10_away_0 {d : Nat} {b : Nat × Nat}  {im : XI} {Q : Option Value → XS → XI → Prop} {l1 : Int32} {l2 : Int32} {l3 : Int32} {P : Int32 → XI → Prop}  (hs : SpI mX10_isDoing d [.ref 0, .int l1] SM im P) (k : ∀ x2 im2, P x2 im2 → V mX10_away (d + 1) b 5 [some (.ref 0), some (.int l1), some (.int l2), some (.int l3), none, none, none, none] [.int x2] SM im2 Q) : V mX10_away (d + 1) b 0 [some (.ref 0), some (.int l1), some (.int l2), some (.int l3), none, none, none, none] [] SM im Q := by
  refine V.aload_n dX10_away_0 rfl rfl ?_
  refine V.iload_n dX10_away_1 rfl rfl ?_
  refine V.cVI rfl vX10_isDoing lkX10_178 wX10_isDoing (ci := 10) rfl (by rfl) (As := [.int l1]) rfl rfl rfl dX10_away_2 hs (fun x2 im2 h2 => ?_)
  exact k x2 im2 h2
theorem bX10_away_5 {d : Nat} {b : Nat × Nat}  {im : XI} {Q : Option Value → XS → XI → Prop} {l1 : Int32} {l2 : Int32} {l3 : Int32} {s0 : Int32}  (kt : s0 = 0 → V mX10_away d b 27 [some (.ref 0), some (.int l1), some (.int l2), some (.int l3), none, none, none, none] [] SM im Q) (kf : ¬ s0 = 0 → V mX10_away d b 8 [some (.ref 0), some (.int l1), some (.int l2), some (.int l3), none, none, none, none] [] SM im Q) : V mX10_away d b 5 [some (.ref 0), some (.int l1), some (.int l2), some (.int l3), none, none, none, none] [.int s0] SM im Q := by
  refine V.if_eq (tgt := 27) dX10_away_5 (by decide) (fun h => ?_) (fun h => ?_)
  · exact kt h
  · exact kf h
theorem bX10_away_8 {d : Nat} {b : Nat × Nat}  {im : XI} {Q : Option Value → XS → XI → Prop} {l1 : Int32} {l2 : Int32} {l3 : Int32} {P : Int32 → XI → Prop}  (hs : SpI mX10_in d [.int l2, .int (0 : Int32), .int (99 : Int32)] SM im P) (k : ∀ x2 im2, P x2 im2 → V mX10_away (d + 1) b 15 [some (.ref 0), some (.int l1), some (.int l2), some (.int l3), none, none, none, none] [.int x2] SM im2 Q) : V mX10_away (d + 1) b 8 [some (.ref 0), some (.int l1), some (.int l2), some (.int l3), none, none, none, none] [] SM im Q := by
  refine V.iload_n dX10_away_8 rfl rfl ?_
  refine V.iconst (v := 0) dX10_away_9 (by decide) ?_
  refine V.bipush (v := 99) dX10_away_10 (by decide) ?_
  refine V.cSI rfl vX10_in lkX10_47 sX10_in (As := [.int l2, .int (0 : Int32), .int (99 : Int32)]) rfl rfl rfl dX10_away_12 hs (fun x2 im2 h2 => ?_)
  exact k x2 im2 h2
theorem bX10_away_15 {d : Nat} {b : Nat × Nat}  {im : XI} {Q : Option Value → XS → XI → Prop} {l1 : Int32} {l2 : Int32} {l3 : Int32} {s0 : Int32}  (kt : s0 = 0 → V mX10_away d b 27 [some (.ref 0), some (.int l1), some (.int l2), some (.int l3), none, none, none, none] [] SM im Q) (kf : ¬ s0 = 0 → V mX10_away d b 18 [some (.ref 0), some (.int l1), some (.int l2), some (.int l3), none, none, none, none] [] SM im Q) : V mX10_away d b 15 [some (.ref 0), some (.int l1), some (.int l2), some (.int l3), none, none, none, none] [.int s0] SM im Q := by
  refine V.if_eq (tgt := 27) dX10_away_15 (by decide) (fun h => ?_) (fun h => ?_)
  · exact kt h
  · exact kf h
theorem bX10_away_18 {d : Nat} {b : Nat × Nat}  {im : XI} {Q : Option Value → XS → XI → Prop} {l1 : Int32} {l2 : Int32} {l3 : Int32} {P : Int32 → XI → Prop}  (hs : SpI mX10_in d [.int l3, .int (0 : Int32), .int (1 : Int32)] SM im P) (k : ∀ x2 im2, P x2 im2 → V mX10_away (d + 1) b 24 [some (.ref 0), some (.int l1), some (.int l2), some (.int l3), none, none, none, none] [.int x2] SM im2 Q) : V mX10_away (d + 1) b 18 [some (.ref 0), some (.int l1), some (.int l2), some (.int l3), none, none, none, none] [] SM im Q := by
  refine V.iload_n dX10_away_18 rfl rfl ?_
  refine V.iconst (v := 0) dX10_away_19 (by decide) ?_
  refine V.iconst (v := 1) dX10_away_20 (by decide) ?_
  refine V.cSI rfl vX10_in lkX10_47 sX10_in (As := [.int l3, .int (0 : Int32), .int (1 : Int32)]) rfl rfl rfl dX10_away_21 hs (fun x2 im2 h2 => ?_)
  exact k x2 im2 h2
theorem bX10_away_24 {d : Nat} {b : Nat × Nat}  {im : XI} {Q : Option Value → XS → XI → Prop} {l1 : Int32} {l2 : Int32} {l3 : Int32} {s0 : Int32}  (kt : ¬ s0 = 0 → V mX10_away d b 33 [some (.ref 0), some (.int l1), some (.int l2), some (.int l3), none, none, none, none] [] SM im Q) (kf : s0 = 0 → V mX10_away d b 27 [some (.ref 0), some (.int l1), some (.int l2), some (.int l3), none, none, none, none] [] SM im Q) : V mX10_away d b 24 [some (.ref 0), some (.int l1), some (.int l2), some (.int l3), none, none, none, none] [.int s0] SM im Q := by
  refine V.if_ne (tgt := 33) dX10_away_24 (by decide) (fun h => ?_) (fun h => ?_)
  · exact kt h
  · exact kf h
theorem bX10_away_27 {d : Nat} {b : Nat × Nat}  {im : XI} {Q : Option Value → XS → XI → Prop} {l1 : Int32} {l2 : Int32} {l3 : Int32} {P : Int32 → XI → Prop}  (hs : SpI mX10_error d [.ref 0, .int (1 : Int32)] SM im P) (k : ∀ x2 im2, P x2 im2 → V mX10_away (d + 1) b 32 [some (.ref 0), some (.int l1), some (.int l2), some (.int l3), none, none, none, none] [.int x2] SM im2 Q) : V mX10_away (d + 1) b 27 [some (.ref 0), some (.int l1), some (.int l2), some (.int l3), none, none, none, none] [] SM im Q := by
  refine V.aload_n dX10_away_27 rfl rfl ?_
  refine V.iconst (v := 1) dX10_away_28 (by decide) ?_
  refine V.cVI rfl vX10_error lkX10_51 wX10_error (ci := 10) rfl (by rfl) (As := [.int (1 : Int32)]) rfl rfl rfl dX10_away_29 hs (fun x2 im2 h2 => ?_)
  exact k x2 im2 h2
theorem bX10_away_32 {d : Nat} {b : Nat × Nat}  {im : XI} {Q : Option Value → XS → XI → Prop} {l1 : Int32} {l2 : Int32} {l3 : Int32} {s0 : Int32}  (hq : Q (some (.int s0)) SM im) : V mX10_away d b 32 [some (.ref 0), some (.int l1), some (.int l2), some (.int l3), none, none, none, none] [.int s0] SM im Q := by
  exact V.iret rfl dX10_away_32 hq
theorem bX10_away_33 {d : Nat} {b : Nat × Nat}  {im : XI} {Q : Option Value → XS → XI → Prop} {l1 : Int32} {l2 : Int32} {l3 : Int32} {P : Int32 → XI → Prop}  (hs : SpI mX10_ofDoing d [.ref 0, .int l1, .int (2 : Int32)] SM im P) (k : ∀ x2 im2, P x2 im2 → V mX10_away (d + 1) b 39 [some (.ref 0), some (.int l1), some (.int l2), some (.int l3), none, none, none, none] [.int x2] SM im2 Q) : V mX10_away (d + 1) b 33 [some (.ref 0), some (.int l1), some (.int l2), some (.int l3), none, none, none, none] [] SM im Q := by
  refine V.aload_n dX10_away_33 rfl rfl ?_
  refine V.iload_n dX10_away_34 rfl rfl ?_
  refine V.iconst (v := 2) dX10_away_35 (by decide) ?_
  refine V.cVI rfl vX10_ofDoing lkX10_130 wX10_ofDoing (ci := 10) rfl (by rfl) (As := [.int l1, .int (2 : Int32)]) rfl rfl rfl dX10_away_36 hs (fun x2 im2 h2 => ?_)
  exact k x2 im2 h2
theorem bX10_away_39 {d : Nat} {b : Nat × Nat}  {im : XI} {Q : Option Value → XS → XI → Prop} {l1 : Int32} {l2 : Int32} {l3 : Int32} {s0 : Int32}  (k : V mX10_away d b 47 [some (.ref 0), some (.int l1), some (.int l2), some (.int l3), some (.int s0), some (.int (-1 : Int32)), some (.int (0 : Int32)), none] [] SM im Q) : V mX10_away d b 39 [some (.ref 0), some (.int l1), some (.int l2), some (.int l3), none, none, none, none] [.int s0] SM im Q := by
  refine V.istore dX10_away_39 rfl rfl ?_
  refine V.iconst (v := -1) dX10_away_41 (by decide) ?_
  refine V.istore dX10_away_42 rfl rfl ?_
  refine V.iconst (v := 0) dX10_away_44 (by decide) ?_
  refine V.istore dX10_away_45 rfl rfl ?_
  exact k
theorem bX10_away_47 {d : Nat} {b : Nat × Nat}  {im : XI} {Q : Option Value → XS → XI → Prop} {l1 : Int32} {l2 : Int32} {l3 : Int32} {l4 : Int32} {l5 : Int32} {l6 : Int32}  (kt : l4 < l6 → V mX10_away d b 121 [some (.ref 0), some (.int l1), some (.int l2), some (.int l3), some (.int l4), some (.int l5), some (.int l6), none] [] SM im Q) (kf : ¬ l4 < l6 → V mX10_away d b 54 [some (.ref 0), some (.int l1), some (.int l2), some (.int l3), some (.int l4), some (.int l5), some (.int l6), none] [] SM im Q) : V mX10_away d b 47 [some (.ref 0), some (.int l1), some (.int l2), some (.int l3), some (.int l4), some (.int l5), some (.int l6), none] [] SM im Q := by
  refine V.iload dX10_away_47 rfl ?_
  refine V.iload dX10_away_49 rfl ?_
  refine V.icmp_gt (tgt := 121) dX10_away_51 (by decide) (fun h => ?_) (fun h => ?_)
  · exact kt h
  · exact kf h
theorem bX10_away_54 {d : Nat} {b : Nat × Nat}  {im : XI} {Q : Option Value → XS → XI → Prop} {l1 : Int32} {l2 : Int32} {l3 : Int32} {l4 : Int32} {l5 : Int32} {l6 : Int32}  (kt : ¬ (l6 &&& (l4 ^^^ (-1 : Int32))) = 0 → V mX10_away d b 87 [some (.ref 0), some (.int l1), some (.int l2), some (.int l3), some (.int l4), some (.int l5), some (.int l6), none] [] SM im Q) (kf : (l6 &&& (l4 ^^^ (-1 : Int32))) = 0 → V mX10_away d b 64 [some (.ref 0), some (.int l1), some (.int l2), some (.int l3), some (.int l4), some (.int l5), some (.int l6), none] [] SM im Q) : V mX10_away d b 54 [some (.ref 0), some (.int l1), some (.int l2), some (.int l3), some (.int l4), some (.int l5), some (.int l6), none] [] SM im Q := by
  refine V.iload dX10_away_54 rfl ?_
  refine V.iload dX10_away_56 rfl ?_
  refine V.iconst (v := -1) dX10_away_58 (by decide) ?_
  refine V.ixor dX10_away_59 ?_
  refine V.iand dX10_away_60 ?_
  refine V.if_ne (tgt := 87) dX10_away_61 (by decide) (fun h => ?_) (fun h => ?_)
  · exact kt h
  · exact kf h
theorem bX10_away_64 {d : Nat} {b : Nat × Nat}  {im : XI} {Q : Option Value → XS → XI → Prop} {l1 : Int32} {l2 : Int32} {l3 : Int32} {l4 : Int32} {l5 : Int32} {l6 : Int32}  (kt : l5 = (-1 : Int32) → V mX10_away d b 83 [some (.ref 0), some (.int l1), some (.int l2), some (.int l3), some (.int l4), some (.int l5), some (.int l6), none] [] SM im Q) (kf : ¬ l5 = (-1 : Int32) → V mX10_away d b 70 [some (.ref 0), some (.int l1), some (.int l2), some (.int l3), some (.int l4), some (.int l5), some (.int l6), none] [] SM im Q) : V mX10_away d b 64 [some (.ref 0), some (.int l1), some (.int l2), some (.int l3), some (.int l4), some (.int l5), some (.int l6), none] [] SM im Q := by
  refine V.iload dX10_away_64 rfl ?_
  refine V.iconst (v := -1) dX10_away_66 (by decide) ?_
  refine V.icmp_eq (tgt := 83) dX10_away_67 (by decide) (fun h => ?_) (fun h => ?_)
  · exact kt h
  · exact kf h
theorem bX10_away_70 {d : Nat} {b : Nat × Nat}  {im : XI} {Q : Option Value → XS → XI → Prop} {l1 : Int32} {l2 : Int32} {l3 : Int32} {l4 : Int32} {l5 : Int32} {l6 : Int32} {P : Int32 → XI → Prop}  (hs : SpI mX10_manyIn d [.int l6] SM im P) (k : ∀ x2 im2, P x2 im2 → V mX10_away (d + 1) b 75 [some (.ref 0), some (.int l1), some (.int l2), some (.int l3), some (.int l4), some (.int l5), some (.int l6), none] [.int x2] SM im2 Q) : V mX10_away (d + 1) b 70 [some (.ref 0), some (.int l1), some (.int l2), some (.int l3), some (.int l4), some (.int l5), some (.int l6), none] [] SM im Q := by
  refine V.iload dX10_away_70 rfl ?_
  refine V.cSI rfl vX10_manyIn lkX10_136 sX10_manyIn (As := [.int l6]) rfl rfl rfl dX10_away_72 hs (fun x2 im2 h2 => ?_)
  exact k x2 im2 h2
theorem bX10_away_75 {d : Nat} {b : Nat × Nat}  {im : XI} {Q : Option Value → XS → XI → Prop} {l1 : Int32} {l2 : Int32} {l3 : Int32} {l4 : Int32} {l5 : Int32} {l6 : Int32} {s0 : Int32} {P : Int32 → XI → Prop}  (hs : SpI mX10_manyIn d [.int l5] SM im P) (k : ∀ x2 im2, P x2 im2 → V mX10_away (d + 1) b 80 [some (.ref 0), some (.int l1), some (.int l2), some (.int l3), some (.int l4), some (.int l5), some (.int l6), none] [.int x2, .int s0] SM im2 Q) : V mX10_away (d + 1) b 75 [some (.ref 0), some (.int l1), some (.int l2), some (.int l3), some (.int l4), some (.int l5), some (.int l6), none] [.int s0] SM im Q := by
  refine V.iload dX10_away_75 rfl ?_
  refine V.cSI rfl vX10_manyIn lkX10_136 sX10_manyIn (As := [.int l5]) rfl rfl rfl dX10_away_77 hs (fun x2 im2 h2 => ?_)
  exact k x2 im2 h2
theorem bX10_away_80 {d : Nat} {b : Nat × Nat}  {im : XI} {Q : Option Value → XS → XI → Prop} {l1 : Int32} {l2 : Int32} {l3 : Int32} {l4 : Int32} {l5 : Int32} {l6 : Int32} {s0 : Int32} {s1 : Int32}  (kt : s1 ≤ s0 → V mX10_away d b 87 [some (.ref 0), some (.int l1), some (.int l2), some (.int l3), some (.int l4), some (.int l5), some (.int l6), none] [] SM im Q) (kf : ¬ s1 ≤ s0 → V mX10_away d b 83 [some (.ref 0), some (.int l1), some (.int l2), some (.int l3), some (.int l4), some (.int l5), some (.int l6), none] [] SM im Q) : V mX10_away d b 80 [some (.ref 0), some (.int l1), some (.int l2), some (.int l3), some (.int l4), some (.int l5), some (.int l6), none] [.int s1, .int s0] SM im Q := by
  refine V.icmp_ge (tgt := 87) dX10_away_80 (by decide) (fun h => ?_) (fun h => ?_)
  · exact kt h
  · exact kf h
theorem bX10_away_83 {d : Nat} {b : Nat × Nat}  {im : XI} {Q : Option Value → XS → XI → Prop} {l1 : Int32} {l2 : Int32} {l3 : Int32} {l4 : Int32} {l5 : Int32} {l6 : Int32}  (k : V mX10_away d b 88 [some (.ref 0), some (.int l1), some (.int l2), some (.int l3), some (.int l4), some (.int l5), some (.int l6), none] [.int (1 : Int32)] SM im Q) : V mX10_away d b 83 [some (.ref 0), some (.int l1), some (.int l2), some (.int l3), some (.int l4), some (.int l5), some (.int l6), none] [] SM im Q := by
  refine V.iconst (v := 1) dX10_away_83 (by decide) ?_
  refine V.goto (tgt := 88) dX10_away_84 (by decide) ?_
  exact k
theorem bX10_away_87 {d : Nat} {b : Nat × Nat}  {im : XI} {Q : Option Value → XS → XI → Prop} {l1 : Int32} {l2 : Int32} {l3 : Int32} {l4 : Int32} {l5 : Int32} {l6 : Int32}  (k : V mX10_away d b 88 [some (.ref 0), some (.int l1), some (.int l2), some (.int l3), some (.int l4), some (.int l5), some (.int l6), none] [.int (0 : Int32)] SM im Q) : V mX10_away d b 87 [some (.ref 0), some (.int l1), some (.int l2), some (.int l3), some (.int l4), some (.int l5), some (.int l6), none] [] SM im Q := by
  refine V.iconst (v := 0) dX10_away_87 (by decide) ?_
  exact k
theorem bX10_away_88 {d : Nat} {b : Nat × Nat}  {im : XI} {Q : Option Value → XS → XI → Prop} {l1 : Int32} {l2 : Int32} {l3 : Int32} {l4 : Int32} {l5 : Int32} {l6 : Int32} {s0 : Int32}  (kt : s0 = 0 → V mX10_away d b 111 [some (.ref 0), some (.int l1), some (.int l2), some (.int l3), some (.int l4), some (.int l5), some (.int l6), some (.int s0)] [] SM im Q) (kf : ¬ s0 = 0 → V mX10_away d b 95 [some (.ref 0), some (.int l1), some (.int l2), some (.int l3), some (.int l4), some (.int l5), some (.int l6), some (.int s0)] [] SM im Q) : V mX10_away d b 88 [some (.ref 0), some (.int l1), some (.int l2), some (.int l3), some (.int l4), some (.int l5), some (.int l6), none] [.int s0] SM im Q := by
  refine V.istore dX10_away_88 rfl rfl ?_
  refine V.iload dX10_away_90 rfl ?_
  refine V.if_eq (tgt := 111) dX10_away_92 (by decide) (fun h => ?_) (fun h => ?_)
  · exact kt h
  · exact kf h
theorem bX10_away_95 {d : Nat} {b : Nat × Nat}  {im : XI} {Q : Option Value → XS → XI → Prop} {l1 : Int32} {l2 : Int32} {l3 : Int32} {l4 : Int32} {l5 : Int32} {l6 : Int32} {l7 : Int32} {P : Int32 → XI → Prop}  (hs : SpI mX10_isDoneWithout d [.ref 0, .int l1, .int l6, .int l2] SM im P) (k : ∀ x2 im2, P x2 im2 → V mX10_away (d + 1) b 103 [some (.ref 0), some (.int l1), some (.int l2), some (.int l3), some (.int l4), some (.int l5), some (.int l6), some (.int l7)] [.int x2] SM im2 Q) : V mX10_away (d + 1) b 95 [some (.ref 0), some (.int l1), some (.int l2), some (.int l3), some (.int l4), some (.int l5), some (.int l6), some (.int l7)] [] SM im Q := by
  refine V.aload_n dX10_away_95 rfl rfl ?_
  refine V.iload_n dX10_away_96 rfl rfl ?_
  refine V.iload dX10_away_97 rfl ?_
  refine V.iload_n dX10_away_99 rfl rfl ?_
  refine V.cVI rfl vX10_isDoneWithout lkX10_209 wX10_isDoneWithout (ci := 10) rfl (by rfl) (As := [.int l1, .int l6, .int l2]) rfl rfl rfl dX10_away_100 hs (fun x2 im2 h2 => ?_)
  exact k x2 im2 h2
theorem bX10_away_103 {d : Nat} {b : Nat × Nat}  {im : XI} {Q : Option Value → XS → XI → Prop} {l1 : Int32} {l2 : Int32} {l3 : Int32} {l4 : Int32} {l5 : Int32} {l6 : Int32} {l7 : Int32} {s0 : Int32}  (kt : s0 = 0 → V mX10_away d b 111 [some (.ref 0), some (.int l1), some (.int l2), some (.int l3), some (.int l4), some (.int l5), some (.int l6), some (.int l7)] [] SM im Q) (kf : ¬ s0 = 0 → V mX10_away d b 106 [some (.ref 0), some (.int l1), some (.int l2), some (.int l3), some (.int l4), some (.int l5), some (.int l6), some (.int l7)] [] SM im Q) : V mX10_away d b 103 [some (.ref 0), some (.int l1), some (.int l2), some (.int l3), some (.int l4), some (.int l5), some (.int l6), some (.int l7)] [.int s0] SM im Q := by
  refine V.if_eq (tgt := 111) dX10_away_103 (by decide) (fun h => ?_) (fun h => ?_)
  · exact kt h
  · exact kf h
theorem bX10_away_106 {d : Nat} {b : Nat × Nat}  {im : XI} {Q : Option Value → XS → XI → Prop} {l1 : Int32} {l2 : Int32} {l3 : Int32} {l4 : Int32} {l5 : Int32} {l6 : Int32} {l7 : Int32}  (k : V mX10_away d b 113 [some (.ref 0), some (.int l1), some (.int l2), some (.int l3), some (.int l4), some (.int l5), some (.int l6), some (.int l7)] [.int l6] SM im Q) : V mX10_away d b 106 [some (.ref 0), some (.int l1), some (.int l2), some (.int l3), some (.int l4), some (.int l5), some (.int l6), some (.int l7)] [] SM im Q := by
  refine V.iload dX10_away_106 rfl ?_
  refine V.goto (tgt := 113) dX10_away_108 (by decide) ?_
  exact k
theorem bX10_away_111 {d : Nat} {b : Nat × Nat}  {im : XI} {Q : Option Value → XS → XI → Prop} {l1 : Int32} {l2 : Int32} {l3 : Int32} {l4 : Int32} {l5 : Int32} {l6 : Int32} {l7 : Int32}  (k : V mX10_away d b 113 [some (.ref 0), some (.int l1), some (.int l2), some (.int l3), some (.int l4), some (.int l5), some (.int l6), some (.int l7)] [.int l5] SM im Q) : V mX10_away d b 111 [some (.ref 0), some (.int l1), some (.int l2), some (.int l3), some (.int l4), some (.int l5), some (.int l6), some (.int l7)] [] SM im Q := by
  refine V.iload dX10_away_111 rfl ?_
  exact k
theorem bX10_away_113 {d : Nat} {b : Nat × Nat}  {im : XI} {Q : Option Value → XS → XI → Prop} {l1 : Int32} {l2 : Int32} {l3 : Int32} {l4 : Int32} {l5 : Int32} {l6 : Int32} {l7 : Int32} {s0 : Int32}  (k : V mX10_away d b 47 [some (.ref 0), some (.int l1), some (.int l2), some (.int l3), some (.int l4), some (.int s0), some (.int (l6 + (1 : Int32))), none] [] SM im Q) : V mX10_away d b 113 [some (.ref 0), some (.int l1), some (.int l2), some (.int l3), some (.int l4), some (.int l5), some (.int l6), some (.int l7)] [.int s0] SM im Q := by
  refine V.istore dX10_away_113 rfl rfl ?_
  refine V.iinc (v := (l6 + (1 : Int32))) dX10_away_115 rfl rfl rfl ?_
  refine V.goto (tgt := 47) dX10_away_118 (by decide) ?_
  exact V.weakm [true, true, true, true, true, true, true, false] rfl (k)
theorem bX10_away_121 {d : Nat} {b : Nat × Nat}  {im : XI} {Q : Option Value → XS → XI → Prop} {l1 : Int32} {l2 : Int32} {l3 : Int32} {l4 : Int32} {l5 : Int32} {l6 : Int32}  (kt : ¬ l5 = (-1 : Int32) → V mX10_away d b 135 [some (.ref 0), some (.int l1), some (.int l2), some (.int l3), some (.int l4), some (.int l5), some (.int l6), none] [] SM im Q) (kf : l5 = (-1 : Int32) → V mX10_away d b 127 [some (.ref 0), some (.int l1), some (.int l2), some (.int l3), some (.int l4), some (.int l5), some (.int l6), none] [] SM im Q) : V mX10_away d b 121 [some (.ref 0), some (.int l1), some (.int l2), some (.int l3), some (.int l4), some (.int l5), some (.int l6), none] [] SM im Q := by
  refine V.iload dX10_away_121 rfl ?_
  refine V.iconst (v := -1) dX10_away_123 (by decide) ?_
  refine V.icmp_ne (tgt := 135) dX10_away_124 (by decide) (fun h => ?_) (fun h => ?_)
  · exact kt h
  · exact kf h
theorem bX10_away_127 {d : Nat} {b : Nat × Nat}  {im : XI} {Q : Option Value → XS → XI → Prop} {l1 : Int32} {l2 : Int32} {l3 : Int32} {l4 : Int32} {l5 : Int32} {l6 : Int32} {P : Int32 → XI → Prop}  (hs : SpI mX10_error d [.ref 0, .int (2 : Int32)] SM im P) (k : ∀ x2 im2, P x2 im2 → V mX10_away (d + 1) b 132 [some (.ref 0), some (.int l1), some (.int l2), some (.int l3), some (.int l4), some (.int l5), some (.int l6), none] [.int x2] SM im2 Q) : V mX10_away (d + 1) b 127 [some (.ref 0), some (.int l1), some (.int l2), some (.int l3), some (.int l4), some (.int l5), some (.int l6), none] [] SM im Q := by
  refine V.aload_n dX10_away_127 rfl rfl ?_
  refine V.iconst (v := 2) dX10_away_128 (by decide) ?_
  refine V.cVI rfl vX10_error lkX10_51 wX10_error (ci := 10) rfl (by rfl) (As := [.int (2 : Int32)]) rfl rfl rfl dX10_away_129 hs (fun x2 im2 h2 => ?_)
  exact k x2 im2 h2
theorem bX10_away_132 {d : Nat} {b : Nat × Nat}  {im : XI} {Q : Option Value → XS → XI → Prop} {l1 : Int32} {l2 : Int32} {l3 : Int32} {l4 : Int32} {l5 : Int32} {l6 : Int32} {s0 : Int32}  (k : V mX10_away d b 149 [some (.ref 0), some (.int l1), some (.int l2), some (.int l3), some (.int l4), some (.int l5), some (.int l6), none] [.int s0] SM im Q) : V mX10_away d b 132 [some (.ref 0), some (.int l1), some (.int l2), some (.int l3), some (.int l4), some (.int l5), some (.int l6), none] [.int s0] SM im Q := by
  refine V.goto (tgt := 149) dX10_away_132 (by decide) ?_
  exact k
theorem bX10_away_135 {d : Nat} {b : Nat × Nat}  {im : XI} {Q : Option Value → XS → XI → Prop} {l1 : Int32} {l2 : Int32} {l3 : Int32} {l4 : Int32} {l5 : Int32} {l6 : Int32}  (kt : ¬ l3 = 0 → V mX10_away d b 147 [some (.ref 0), some (.int l1), some (.int l2), some (.int l3), some (.int l4), some (.int l5), some (.int l6), none] [] SM im Q) (kf : l3 = 0 → V mX10_away d b 139 [some (.ref 0), some (.int l1), some (.int l2), some (.int l3), some (.int l4), some (.int l5), some (.int l6), none] [] SM im Q) : V mX10_away d b 135 [some (.ref 0), some (.int l1), some (.int l2), some (.int l3), some (.int l4), some (.int l5), some (.int l6), none] [] SM im Q := by
  refine V.iload_n dX10_away_135 rfl rfl ?_
  refine V.if_ne (tgt := 147) dX10_away_136 (by decide) (fun h => ?_) (fun h => ?_)
  · exact kt h
  · exact kf h
theorem bX10_away_139 {d : Nat} {b : Nat × Nat}  {im : XI} {Q : Option Value → XS → XI → Prop} {l1 : Int32} {l2 : Int32} {l3 : Int32} {l4 : Int32} {l5 : Int32} {l6 : Int32} {P : Int32 → XI → Prop}  (hs : SpI mX10_manyIn d [.int l5] SM im P) (k : ∀ x2 im2, P x2 im2 → V mX10_away (d + 1) b 144 [some (.ref 0), some (.int l1), some (.int l2), some (.int l3), some (.int l4), some (.int l5), some (.int l6), none] [.int x2] SM im2 Q) : V mX10_away (d + 1) b 139 [some (.ref 0), some (.int l1), some (.int l2), some (.int l3), some (.int l4), some (.int l5), some (.int l6), none] [] SM im Q := by
  refine V.iload dX10_away_139 rfl ?_
  refine V.cSI rfl vX10_manyIn lkX10_136 sX10_manyIn (As := [.int l5]) rfl rfl rfl dX10_away_141 hs (fun x2 im2 h2 => ?_)
  exact k x2 im2 h2
theorem bX10_away_144 {d : Nat} {b : Nat × Nat}  {im : XI} {Q : Option Value → XS → XI → Prop} {l1 : Int32} {l2 : Int32} {l3 : Int32} {l4 : Int32} {l5 : Int32} {l6 : Int32} {s0 : Int32}  (k : V mX10_away d b 149 [some (.ref 0), some (.int l1), some (.int l2), some (.int l3), some (.int l4), some (.int l5), some (.int l6), none] [.int s0] SM im Q) : V mX10_away d b 144 [some (.ref 0), some (.int l1), some (.int l2), some (.int l3), some (.int l4), some (.int l5), some (.int l6), none] [.int s0] SM im Q := by
  refine V.goto (tgt := 149) dX10_away_144 (by decide) ?_
  exact k
theorem bX10_away_147 {d : Nat} {b : Nat × Nat}  {im : XI} {Q : Option Value → XS → XI → Prop} {l1 : Int32} {l2 : Int32} {l3 : Int32} {l4 : Int32} {l5 : Int32} {l6 : Int32}  (k : V mX10_away d b 149 [some (.ref 0), some (.int l1), some (.int l2), some (.int l3), some (.int l4), some (.int l5), some (.int l6), none] [.int l5] SM im Q) : V mX10_away d b 147 [some (.ref 0), some (.int l1), some (.int l2), some (.int l3), some (.int l4), some (.int l5), some (.int l6), none] [] SM im Q := by
  refine V.iload dX10_away_147 rfl ?_
  exact k
theorem bX10_away_149 {d : Nat} {b : Nat × Nat}  {im : XI} {Q : Option Value → XS → XI → Prop} {l1 : Int32} {l2 : Int32} {l3 : Int32} {l4 : Int32} {l5 : Int32} {l6 : Int32} {s0 : Int32}  (hq : Q (some (.int s0)) SM im) : V mX10_away d b 149 [some (.ref 0), some (.int l1), some (.int l2), some (.int l3), some (.int l4), some (.int l5), some (.int l6), none] [.int s0] SM im Q := by
  exact V.iret rfl dX10_away_149 hq
theorem bX10_phaseFor_0 {d : Nat} {b : Nat × Nat}  {im : XI} {Q : Option Value → XS → XI → Prop} {l1 : Int32} {l2 : Int32} {l3 : Int32} {P : Int32 → XI → Prop}  (hs : SpI mX10_isPerson d [.ref 0, .int l1] SM im P) (k : ∀ x2 im2, P x2 im2 → V mX10_phaseFor (d + 1) b 5 [some (.ref 0), some (.int l1), some (.int l2), some (.int l3), none, none, none, none, none] [.int x2] SM im2 Q) : V mX10_phaseFor (d + 1) b 0 [some (.ref 0), some (.int l1), some (.int l2), some (.int l3), none, none, none, none, none] [] SM im Q := by
  refine V.aload_n dX10_phaseFor_0 rfl rfl ?_
  refine V.iload_n dX10_phaseFor_1 rfl rfl ?_
  refine V.cVI rfl vX10_isPerson lkX10_166 wX10_isPerson (ci := 10) rfl (by rfl) (As := [.int l1]) rfl rfl rfl dX10_phaseFor_2 hs (fun x2 im2 h2 => ?_)
  exact k x2 im2 h2
theorem bX10_phaseFor_5 {d : Nat} {b : Nat × Nat}  {im : XI} {Q : Option Value → XS → XI → Prop} {l1 : Int32} {l2 : Int32} {l3 : Int32} {s0 : Int32}  (kt : s0 = 0 → V mX10_phaseFor d b 25 [some (.ref 0), some (.int l1), some (.int l2), some (.int l3), none, none, none, none, none] [] SM im Q) (kf : ¬ s0 = 0 → V mX10_phaseFor d b 8 [some (.ref 0), some (.int l1), some (.int l2), some (.int l3), none, none, none, none, none] [] SM im Q) : V mX10_phaseFor d b 5 [some (.ref 0), some (.int l1), some (.int l2), some (.int l3), none, none, none, none, none] [.int s0] SM im Q := by
  refine V.if_eq (tgt := 25) dX10_phaseFor_5 (by decide) (fun h => ?_) (fun h => ?_)
  · exact kt h
  · exact kf h
theorem bX10_phaseFor_8 {d : Nat} {b : Nat × Nat}  {im : XI} {Q : Option Value → XS → XI → Prop} {l1 : Int32} {l2 : Int32} {l3 : Int32} {P : Int32 → XI → Prop}  (hs : SpI mX10_isDoing d [.ref 0, .int l2] SM im P) (k : ∀ x2 im2, P x2 im2 → V mX10_phaseFor (d + 1) b 13 [some (.ref 0), some (.int l1), some (.int l2), some (.int l3), none, none, none, none, none] [.int x2] SM im2 Q) : V mX10_phaseFor (d + 1) b 8 [some (.ref 0), some (.int l1), some (.int l2), some (.int l3), none, none, none, none, none] [] SM im Q := by
  refine V.aload_n dX10_phaseFor_8 rfl rfl ?_
  refine V.iload_n dX10_phaseFor_9 rfl rfl ?_
  refine V.cVI rfl vX10_isDoing lkX10_178 wX10_isDoing (ci := 10) rfl (by rfl) (As := [.int l2]) rfl rfl rfl dX10_phaseFor_10 hs (fun x2 im2 h2 => ?_)
  exact k x2 im2 h2
theorem bX10_phaseFor_13 {d : Nat} {b : Nat × Nat}  {im : XI} {Q : Option Value → XS → XI → Prop} {l1 : Int32} {l2 : Int32} {l3 : Int32} {s0 : Int32}  (kt : s0 = 0 → V mX10_phaseFor d b 25 [some (.ref 0), some (.int l1), some (.int l2), some (.int l3), none, none, none, none, none] [] SM im Q) (kf : ¬ s0 = 0 → V mX10_phaseFor d b 16 [some (.ref 0), some (.int l1), some (.int l2), some (.int l3), none, none, none, none, none] [] SM im Q) : V mX10_phaseFor d b 13 [some (.ref 0), some (.int l1), some (.int l2), some (.int l3), none, none, none, none, none] [.int s0] SM im Q := by
  refine V.if_eq (tgt := 25) dX10_phaseFor_13 (by decide) (fun h => ?_) (fun h => ?_)
  · exact kt h
  · exact kf h
theorem bX10_phaseFor_16 {d : Nat} {b : Nat × Nat}  {im : XI} {Q : Option Value → XS → XI → Prop} {l1 : Int32} {l2 : Int32} {l3 : Int32} {P : Int32 → XI → Prop}  (hs : SpI mX10_in d [.int l3, .int (0 : Int32), .int (1 : Int32)] SM im P) (k : ∀ x2 im2, P x2 im2 → V mX10_phaseFor (d + 1) b 22 [some (.ref 0), some (.int l1), some (.int l2), some (.int l3), none, none, none, none, none] [.int x2] SM im2 Q) : V mX10_phaseFor (d + 1) b 16 [some (.ref 0), some (.int l1), some (.int l2), some (.int l3), none, none, none, none, none] [] SM im Q := by
  refine V.iload_n dX10_phaseFor_16 rfl rfl ?_
  refine V.iconst (v := 0) dX10_phaseFor_17 (by decide) ?_
  refine V.iconst (v := 1) dX10_phaseFor_18 (by decide) ?_
  refine V.cSI rfl vX10_in lkX10_47 sX10_in (As := [.int l3, .int (0 : Int32), .int (1 : Int32)]) rfl rfl rfl dX10_phaseFor_19 hs (fun x2 im2 h2 => ?_)
  exact k x2 im2 h2
theorem bX10_phaseFor_22 {d : Nat} {b : Nat × Nat}  {im : XI} {Q : Option Value → XS → XI → Prop} {l1 : Int32} {l2 : Int32} {l3 : Int32} {s0 : Int32}  (kt : ¬ s0 = 0 → V mX10_phaseFor d b 31 [some (.ref 0), some (.int l1), some (.int l2), some (.int l3), none, none, none, none, none] [] SM im Q) (kf : s0 = 0 → V mX10_phaseFor d b 25 [some (.ref 0), some (.int l1), some (.int l2), some (.int l3), none, none, none, none, none] [] SM im Q) : V mX10_phaseFor d b 22 [some (.ref 0), some (.int l1), some (.int l2), some (.int l3), none, none, none, none, none] [.int s0] SM im Q := by
  refine V.if_ne (tgt := 31) dX10_phaseFor_22 (by decide) (fun h => ?_) (fun h => ?_)
  · exact kt h
  · exact kf h
theorem bX10_phaseFor_25 {d : Nat} {b : Nat × Nat}  {im : XI} {Q : Option Value → XS → XI → Prop} {l1 : Int32} {l2 : Int32} {l3 : Int32} {P : Int32 → XI → Prop}  (hs : SpI mX10_error d [.ref 0, .int (1 : Int32)] SM im P) (k : ∀ x2 im2, P x2 im2 → V mX10_phaseFor (d + 1) b 30 [some (.ref 0), some (.int l1), some (.int l2), some (.int l3), none, none, none, none, none] [.int x2] SM im2 Q) : V mX10_phaseFor (d + 1) b 25 [some (.ref 0), some (.int l1), some (.int l2), some (.int l3), none, none, none, none, none] [] SM im Q := by
  refine V.aload_n dX10_phaseFor_25 rfl rfl ?_
  refine V.iconst (v := 1) dX10_phaseFor_26 (by decide) ?_
  refine V.cVI rfl vX10_error lkX10_51 wX10_error (ci := 10) rfl (by rfl) (As := [.int (1 : Int32)]) rfl rfl rfl dX10_phaseFor_27 hs (fun x2 im2 h2 => ?_)
  exact k x2 im2 h2
theorem bX10_phaseFor_30 {d : Nat} {b : Nat × Nat}  {im : XI} {Q : Option Value → XS → XI → Prop} {l1 : Int32} {l2 : Int32} {l3 : Int32} {s0 : Int32}  (hq : Q (some (.int s0)) SM im) : V mX10_phaseFor d b 30 [some (.ref 0), some (.int l1), some (.int l2), some (.int l3), none, none, none, none, none] [.int s0] SM im Q := by
  exact V.iret rfl dX10_phaseFor_30 hq
theorem bX10_phaseFor_31 {d : Nat} {b : Nat × Nat}  {im : XI} {Q : Option Value → XS → XI → Prop} {l1 : Int32} {l2 : Int32} {l3 : Int32}  (k : V mX10_phaseFor d b 41 [some (.ref 0), some (.int l1), some (.int l2), some (.int l3), some (.int (-1 : Int32)), some (.int (100 : Int32)), some (.int (0 : Int32)), none, none] [] SM im Q) : V mX10_phaseFor d b 31 [some (.ref 0), some (.int l1), some (.int l2), some (.int l3), none, none, none, none, none] [] SM im Q := by
  refine V.iconst (v := -1) dX10_phaseFor_31 (by decide) ?_
  refine V.istore dX10_phaseFor_32 rfl rfl ?_
  refine V.bipush (v := 100) dX10_phaseFor_34 (by decide) ?_
  refine V.istore dX10_phaseFor_36 rfl rfl ?_
  refine V.iconst (v := 0) dX10_phaseFor_38 (by decide) ?_
  refine V.istore dX10_phaseFor_39 rfl rfl ?_
  exact k
theorem bX10_phaseFor_41 {d : Nat} {b : Nat × Nat}  {im : XI} {Q : Option Value → XS → XI → Prop} {l1 : Int32} {l2 : Int32} {l3 : Int32} {l4 : Int32} {l5 : Int32} {l6 : Int32} {P : Int32 → XI → Prop}  (hs : SpI mX10_its d [.ref 0, .int l1, .int (2 : Int32)] SM im P) (k : ∀ x2 im2, P x2 im2 → V mX10_phaseFor (d + 1) b 49 [some (.ref 0), some (.int l1), some (.int l2), some (.int l3), some (.int l4), some (.int l5), some (.int l6), none, none] [.int x2, .int l6] SM im2 Q) : V mX10_phaseFor (d + 1) b 41 [some (.ref 0), some (.int l1), some (.int l2), some (.int l3), some (.int l4), some (.int l5), some (.int l6), none, none] [] SM im Q := by
  refine V.iload dX10_phaseFor_41 rfl ?_
  refine V.aload_n dX10_phaseFor_43 rfl rfl ?_
  refine V.iload_n dX10_phaseFor_44 rfl rfl ?_
  refine V.iconst (v := 2) dX10_phaseFor_45 (by decide) ?_
  refine V.cVI rfl vX10_its lkX10_111 wX10_its (ci := 10) rfl (by rfl) (As := [.int l1, .int (2 : Int32)]) rfl rfl rfl dX10_phaseFor_46 hs (fun x2 im2 h2 => ?_)
  exact k x2 im2 h2
theorem bX10_phaseFor_49 {d : Nat} {b : Nat × Nat}  {im : XI} {Q : Option Value → XS → XI → Prop} {l1 : Int32} {l2 : Int32} {l3 : Int32} {l4 : Int32} {l5 : Int32} {l6 : Int32} {s0 : Int32} {s1 : Int32}  (kt : s1 ≤ s0 → V mX10_phaseFor d b 127 [some (.ref 0), some (.int l1), some (.int l2), some (.int l3), some (.int l4), some (.int l5), some (.int l6), none, none] [] SM im Q) (kf : ¬ s1 ≤ s0 → V mX10_phaseFor d b 52 [some (.ref 0), some (.int l1), some (.int l2), some (.int l3), some (.int l4), some (.int l5), some (.int l6), none, none] [] SM im Q) : V mX10_phaseFor d b 49 [some (.ref 0), some (.int l1), some (.int l2), some (.int l3), some (.int l4), some (.int l5), some (.int l6), none, none] [.int s1, .int s0] SM im Q := by
  refine V.icmp_ge (tgt := 127) dX10_phaseFor_49 (by decide) (fun h => ?_) (fun h => ?_)
  · exact kt h
  · exact kf h
theorem bX10_phaseFor_52 {d : Nat} {b : Nat × Nat}  {im : XI} {Q : Option Value → XS → XI → Prop} {l1 : Int32} {l2 : Int32} {l3 : Int32} {l4 : Int32} {l5 : Int32} {l6 : Int32} {P : XI → Prop}  (hs : SpV mX10_layDown d [.ref 0] SM im P) (k : ∀ im2, P im2 → V mX10_phaseFor (d + 1) b 56 [some (.ref 0), some (.int l1), some (.int l2), some (.int l3), some (.int l4), some (.int l5), some (.int l6), none, none] [] SM im2 Q) : V mX10_phaseFor (d + 1) b 52 [some (.ref 0), some (.int l1), some (.int l2), some (.int l3), some (.int l4), some (.int l5), some (.int l6), none, none] [] SM im Q := by
  refine V.aload_n dX10_phaseFor_52 rfl rfl ?_
  refine V.cVV rfl vX10_layDown lkX10_194 wX10_layDown (ci := 10) rfl (by rfl) (As := []) rfl rfl rfl dX10_phaseFor_53 hs (fun im2 h2 => ?_)
  exact k im2 h2
theorem bX10_phaseFor_56 {d : Nat} {b : Nat × Nat}  {im : XI} {Q : Option Value → XS → XI → Prop} {l1 : Int32} {l2 : Int32} {l3 : Int32} {l4 : Int32} {l5 : Int32} {l6 : Int32} {P : XI → Prop}  (hs : SpV mX10_lays1 d [.ref 0, .int l1, .int (3 : Int32), .int l6] SM im P) (k : ∀ im2, P im2 → V mX10_phaseFor (d + 1) b 64 [some (.ref 0), some (.int l1), some (.int l2), some (.int l3), some (.int l4), some (.int l5), some (.int l6), none, none] [] SM im2 Q) : V mX10_phaseFor (d + 1) b 56 [some (.ref 0), some (.int l1), some (.int l2), some (.int l3), some (.int l4), some (.int l5), some (.int l6), none, none] [] SM im Q := by
  refine V.aload_n dX10_phaseFor_56 rfl rfl ?_
  refine V.iload_n dX10_phaseFor_57 rfl rfl ?_
  refine V.iconst (v := 3) dX10_phaseFor_58 (by decide) ?_
  refine V.iload dX10_phaseFor_59 rfl ?_
  refine V.cVV rfl vX10_lays1 lkX10_163 wX10_lays1 (ci := 10) rfl (by rfl) (As := [.int l1, .int (3 : Int32), .int l6]) rfl rfl rfl dX10_phaseFor_61 hs (fun im2 h2 => ?_)
  exact k im2 h2
theorem bX10_phaseFor_64 {d : Nat} {b : Nat × Nat}  {im : XI} {Q : Option Value → XS → XI → Prop} {l1 : Int32} {l2 : Int32} {l3 : Int32} {l4 : Int32} {l5 : Int32} {l6 : Int32} {P : Int32 → XI → Prop}  (hs : SpI mX10_doneBy d [.ref 0, .int l2, .int (99 : Int32)] SM im P) (k : ∀ x2 im2, P x2 im2 → V mX10_phaseFor (d + 1) b 71 [some (.ref 0), some (.int l1), some (.int l2), some (.int l3), some (.int l4), some (.int l5), some (.int l6), none, none] [.int x2] SM im2 Q) : V mX10_phaseFor (d + 1) b 64 [some (.ref 0), some (.int l1), some (.int l2), some (.int l3), some (.int l4), some (.int l5), some (.int l6), none, none] [] SM im Q := by
  refine V.aload_n dX10_phaseFor_64 rfl rfl ?_
  refine V.iload_n dX10_phaseFor_65 rfl rfl ?_
  refine V.bipush (v := 99) dX10_phaseFor_66 (by decide) ?_
  refine V.cVI rfl vX10_doneBy lkX10_200 wX10_doneBy (ci := 10) rfl (by rfl) (As := [.int l2, .int (99 : Int32)]) rfl rfl rfl dX10_phaseFor_68 hs (fun x2 im2 h2 => ?_)
  exact k x2 im2 h2
theorem bX10_phaseFor_71 {d : Nat} {b : Nat × Nat}  {im : XI} {Q : Option Value → XS → XI → Prop} {l1 : Int32} {l2 : Int32} {l3 : Int32} {l4 : Int32} {l5 : Int32} {l6 : Int32} {s0 : Int32}  (kt : s0 = (-1 : Int32) → V mX10_phaseFor d b 90 [some (.ref 0), some (.int l1), some (.int l2), some (.int l3), some (.int l4), some (.int l5), some (.int l6), some (.int s0), none] [] SM im Q) (kf : ¬ s0 = (-1 : Int32) → V mX10_phaseFor d b 79 [some (.ref 0), some (.int l1), some (.int l2), some (.int l3), some (.int l4), some (.int l5), some (.int l6), some (.int s0), none] [] SM im Q) : V mX10_phaseFor d b 71 [some (.ref 0), some (.int l1), some (.int l2), some (.int l3), some (.int l4), some (.int l5), some (.int l6), none, none] [.int s0] SM im Q := by
  refine V.istore dX10_phaseFor_71 rfl rfl ?_
  refine V.iload dX10_phaseFor_73 rfl ?_
  refine V.iconst (v := -1) dX10_phaseFor_75 (by decide) ?_
  refine V.icmp_eq (tgt := 90) dX10_phaseFor_76 (by decide) (fun h => ?_) (fun h => ?_)
  · exact kt h
  · exact kf h
theorem bX10_phaseFor_79 {d : Nat} {b : Nat × Nat}  {im : XI} {Q : Option Value → XS → XI → Prop} {l1 : Int32} {l2 : Int32} {l3 : Int32} {l4 : Int32} {l5 : Int32} {l6 : Int32} {l7 : Int32}  (kt : l5 ≤ l7 → V mX10_phaseFor d b 90 [some (.ref 0), some (.int l1), some (.int l2), some (.int l3), some (.int l4), some (.int l5), some (.int l6), some (.int l7), none] [] SM im Q) (kf : ¬ l5 ≤ l7 → V mX10_phaseFor d b 86 [some (.ref 0), some (.int l1), some (.int l2), some (.int l3), some (.int l4), some (.int l5), some (.int l6), some (.int l7), none] [] SM im Q) : V mX10_phaseFor d b 79 [some (.ref 0), some (.int l1), some (.int l2), some (.int l3), some (.int l4), some (.int l5), some (.int l6), some (.int l7), none] [] SM im Q := by
  refine V.iload dX10_phaseFor_79 rfl ?_
  refine V.iload dX10_phaseFor_81 rfl ?_
  refine V.icmp_ge (tgt := 90) dX10_phaseFor_83 (by decide) (fun h => ?_) (fun h => ?_)
  · exact kt h
  · exact kf h
theorem bX10_phaseFor_86 {d : Nat} {b : Nat × Nat}  {im : XI} {Q : Option Value → XS → XI → Prop} {l1 : Int32} {l2 : Int32} {l3 : Int32} {l4 : Int32} {l5 : Int32} {l6 : Int32} {l7 : Int32}  (k : V mX10_phaseFor d b 91 [some (.ref 0), some (.int l1), some (.int l2), some (.int l3), some (.int l4), some (.int l5), some (.int l6), some (.int l7), none] [.int (1 : Int32)] SM im Q) : V mX10_phaseFor d b 86 [some (.ref 0), some (.int l1), some (.int l2), some (.int l3), some (.int l4), some (.int l5), some (.int l6), some (.int l7), none] [] SM im Q := by
  refine V.iconst (v := 1) dX10_phaseFor_86 (by decide) ?_
  refine V.goto (tgt := 91) dX10_phaseFor_87 (by decide) ?_
  exact k
theorem bX10_phaseFor_90 {d : Nat} {b : Nat × Nat}  {im : XI} {Q : Option Value → XS → XI → Prop} {l1 : Int32} {l2 : Int32} {l3 : Int32} {l4 : Int32} {l5 : Int32} {l6 : Int32} {l7 : Int32}  (k : V mX10_phaseFor d b 91 [some (.ref 0), some (.int l1), some (.int l2), some (.int l3), some (.int l4), some (.int l5), some (.int l6), some (.int l7), none] [.int (0 : Int32)] SM im Q) : V mX10_phaseFor d b 90 [some (.ref 0), some (.int l1), some (.int l2), some (.int l3), some (.int l4), some (.int l5), some (.int l6), some (.int l7), none] [] SM im Q := by
  refine V.iconst (v := 0) dX10_phaseFor_90 (by decide) ?_
  exact k
theorem bX10_phaseFor_91 {d : Nat} {b : Nat × Nat}  {im : XI} {Q : Option Value → XS → XI → Prop} {l1 : Int32} {l2 : Int32} {l3 : Int32} {l4 : Int32} {l5 : Int32} {l6 : Int32} {l7 : Int32} {s0 : Int32}  (kt : s0 = 0 → V mX10_phaseFor d b 103 [some (.ref 0), some (.int l1), some (.int l2), some (.int l3), some (.int l4), some (.int l5), some (.int l6), some (.int l7), some (.int s0)] [] SM im Q) (kf : ¬ s0 = 0 → V mX10_phaseFor d b 98 [some (.ref 0), some (.int l1), some (.int l2), some (.int l3), some (.int l4), some (.int l5), some (.int l6), some (.int l7), some (.int s0)] [] SM im Q) : V mX10_phaseFor d b 91 [some (.ref 0), some (.int l1), some (.int l2), some (.int l3), some (.int l4), some (.int l5), some (.int l6), some (.int l7), none] [.int s0] SM im Q := by
  refine V.istore dX10_phaseFor_91 rfl rfl ?_
  refine V.iload dX10_phaseFor_93 rfl ?_
  refine V.if_eq (tgt := 103) dX10_phaseFor_95 (by decide) (fun h => ?_) (fun h => ?_)
  · exact kt h
  · exact kf h
theorem bX10_phaseFor_98 {d : Nat} {b : Nat × Nat}  {im : XI} {Q : Option Value → XS → XI → Prop} {l1 : Int32} {l2 : Int32} {l3 : Int32} {l4 : Int32} {l5 : Int32} {l6 : Int32} {l7 : Int32} {l8 : Int32}  (k : V mX10_phaseFor d b 105 [some (.ref 0), some (.int l1), some (.int l2), some (.int l3), some (.int l4), some (.int l5), some (.int l6), some (.int l7), some (.int l8)] [.int l6] SM im Q) : V mX10_phaseFor d b 98 [some (.ref 0), some (.int l1), some (.int l2), some (.int l3), some (.int l4), some (.int l5), some (.int l6), some (.int l7), some (.int l8)] [] SM im Q := by
  refine V.iload dX10_phaseFor_98 rfl ?_
  refine V.goto (tgt := 105) dX10_phaseFor_100 (by decide) ?_
  exact k
theorem bX10_phaseFor_103 {d : Nat} {b : Nat × Nat}  {im : XI} {Q : Option Value → XS → XI → Prop} {l1 : Int32} {l2 : Int32} {l3 : Int32} {l4 : Int32} {l5 : Int32} {l6 : Int32} {l7 : Int32} {l8 : Int32}  (k : V mX10_phaseFor d b 105 [some (.ref 0), some (.int l1), some (.int l2), some (.int l3), some (.int l4), some (.int l5), some (.int l6), some (.int l7), some (.int l8)] [.int l4] SM im Q) : V mX10_phaseFor d b 103 [some (.ref 0), some (.int l1), some (.int l2), some (.int l3), some (.int l4), some (.int l5), some (.int l6), some (.int l7), some (.int l8)] [] SM im Q := by
  refine V.iload dX10_phaseFor_103 rfl ?_
  exact k
theorem bX10_phaseFor_105 {d : Nat} {b : Nat × Nat}  {im : XI} {Q : Option Value → XS → XI → Prop} {l1 : Int32} {l2 : Int32} {l3 : Int32} {l4 : Int32} {l5 : Int32} {l6 : Int32} {l7 : Int32} {l8 : Int32} {s0 : Int32}  (kt : l8 = 0 → V mX10_phaseFor d b 117 [some (.ref 0), some (.int l1), some (.int l2), some (.int l3), some (.int s0), some (.int l5), some (.int l6), some (.int l7), some (.int l8)] [] SM im Q) (kf : ¬ l8 = 0 → V mX10_phaseFor d b 112 [some (.ref 0), some (.int l1), some (.int l2), some (.int l3), some (.int s0), some (.int l5), some (.int l6), some (.int l7), some (.int l8)] [] SM im Q) : V mX10_phaseFor d b 105 [some (.ref 0), some (.int l1), some (.int l2), some (.int l3), some (.int l4), some (.int l5), some (.int l6), some (.int l7), some (.int l8)] [.int s0] SM im Q := by
  refine V.istore dX10_phaseFor_105 rfl rfl ?_
  refine V.iload dX10_phaseFor_107 rfl ?_
  refine V.if_eq (tgt := 117) dX10_phaseFor_109 (by decide) (fun h => ?_) (fun h => ?_)
  · exact kt h
  · exact kf h
theorem bX10_phaseFor_112 {d : Nat} {b : Nat × Nat}  {im : XI} {Q : Option Value → XS → XI → Prop} {l1 : Int32} {l2 : Int32} {l3 : Int32} {l4 : Int32} {l5 : Int32} {l6 : Int32} {l7 : Int32} {l8 : Int32}  (k : V mX10_phaseFor d b 119 [some (.ref 0), some (.int l1), some (.int l2), some (.int l3), some (.int l4), some (.int l5), some (.int l6), some (.int l7), some (.int l8)] [.int l7] SM im Q) : V mX10_phaseFor d b 112 [some (.ref 0), some (.int l1), some (.int l2), some (.int l3), some (.int l4), some (.int l5), some (.int l6), some (.int l7), some (.int l8)] [] SM im Q := by
  refine V.iload dX10_phaseFor_112 rfl ?_
  refine V.goto (tgt := 119) dX10_phaseFor_114 (by decide) ?_
  exact k
theorem bX10_phaseFor_117 {d : Nat} {b : Nat × Nat}  {im : XI} {Q : Option Value → XS → XI → Prop} {l1 : Int32} {l2 : Int32} {l3 : Int32} {l4 : Int32} {l5 : Int32} {l6 : Int32} {l7 : Int32} {l8 : Int32}  (k : V mX10_phaseFor d b 119 [some (.ref 0), some (.int l1), some (.int l2), some (.int l3), some (.int l4), some (.int l5), some (.int l6), some (.int l7), some (.int l8)] [.int l5] SM im Q) : V mX10_phaseFor d b 117 [some (.ref 0), some (.int l1), some (.int l2), some (.int l3), some (.int l4), some (.int l5), some (.int l6), some (.int l7), some (.int l8)] [] SM im Q := by
  refine V.iload dX10_phaseFor_117 rfl ?_
  exact k
theorem bX10_phaseFor_119 {d : Nat} {b : Nat × Nat}  {im : XI} {Q : Option Value → XS → XI → Prop} {l1 : Int32} {l2 : Int32} {l3 : Int32} {l4 : Int32} {l5 : Int32} {l6 : Int32} {l7 : Int32} {l8 : Int32} {s0 : Int32}  (k : V mX10_phaseFor d b 41 [some (.ref 0), some (.int l1), some (.int l2), some (.int l3), some (.int l4), some (.int s0), some (.int (l6 + (1 : Int32))), none, none] [] SM im Q) : V mX10_phaseFor d b 119 [some (.ref 0), some (.int l1), some (.int l2), some (.int l3), some (.int l4), some (.int l5), some (.int l6), some (.int l7), some (.int l8)] [.int s0] SM im Q := by
  refine V.istore dX10_phaseFor_119 rfl rfl ?_
  refine V.iinc (v := (l6 + (1 : Int32))) dX10_phaseFor_121 rfl rfl rfl ?_
  refine V.goto (tgt := 41) dX10_phaseFor_124 (by decide) ?_
  exact V.weakm [true, true, true, true, true, true, true, false, false] rfl (k)
theorem bX10_phaseFor_127 {d : Nat} {b : Nat × Nat}  {im : XI} {Q : Option Value → XS → XI → Prop} {l1 : Int32} {l2 : Int32} {l3 : Int32} {l4 : Int32} {l5 : Int32} {l6 : Int32}  (kt : ¬ l4 = (-1 : Int32) → V mX10_phaseFor d b 141 [some (.ref 0), some (.int l1), some (.int l2), some (.int l3), some (.int l4), some (.int l5), some (.int l6), none, none] [] SM im Q) (kf : l4 = (-1 : Int32) → V mX10_phaseFor d b 133 [some (.ref 0), some (.int l1), some (.int l2), some (.int l3), some (.int l4), some (.int l5), some (.int l6), none, none] [] SM im Q) : V mX10_phaseFor d b 127 [some (.ref 0), some (.int l1), some (.int l2), some (.int l3), some (.int l4), some (.int l5), some (.int l6), none, none] [] SM im Q := by
  refine V.iload dX10_phaseFor_127 rfl ?_
  refine V.iconst (v := -1) dX10_phaseFor_129 (by decide) ?_
  refine V.icmp_ne (tgt := 141) dX10_phaseFor_130 (by decide) (fun h => ?_) (fun h => ?_)
  · exact kt h
  · exact kf h
theorem bX10_phaseFor_133 {d : Nat} {b : Nat × Nat}  {im : XI} {Q : Option Value → XS → XI → Prop} {l1 : Int32} {l2 : Int32} {l3 : Int32} {l4 : Int32} {l5 : Int32} {l6 : Int32} {P : Int32 → XI → Prop}  (hs : SpI mX10_error d [.ref 0, .int (2 : Int32)] SM im P) (k : ∀ x2 im2, P x2 im2 → V mX10_phaseFor (d + 1) b 138 [some (.ref 0), some (.int l1), some (.int l2), some (.int l3), some (.int l4), some (.int l5), some (.int l6), none, none] [.int x2] SM im2 Q) : V mX10_phaseFor (d + 1) b 133 [some (.ref 0), some (.int l1), some (.int l2), some (.int l3), some (.int l4), some (.int l5), some (.int l6), none, none] [] SM im Q := by
  refine V.aload_n dX10_phaseFor_133 rfl rfl ?_
  refine V.iconst (v := 2) dX10_phaseFor_134 (by decide) ?_
  refine V.cVI rfl vX10_error lkX10_51 wX10_error (ci := 10) rfl (by rfl) (As := [.int (2 : Int32)]) rfl rfl rfl dX10_phaseFor_135 hs (fun x2 im2 h2 => ?_)
  exact k x2 im2 h2
theorem bX10_phaseFor_138 {d : Nat} {b : Nat × Nat}  {im : XI} {Q : Option Value → XS → XI → Prop} {l1 : Int32} {l2 : Int32} {l3 : Int32} {l4 : Int32} {l5 : Int32} {l6 : Int32} {s0 : Int32}  (k : V mX10_phaseFor d b 152 [some (.ref 0), some (.int l1), some (.int l2), some (.int l3), some (.int l4), some (.int l5), some (.int l6), none, none] [.int s0] SM im Q) : V mX10_phaseFor d b 138 [some (.ref 0), some (.int l1), some (.int l2), some (.int l3), some (.int l4), some (.int l5), some (.int l6), none, none] [.int s0] SM im Q := by
  refine V.goto (tgt := 152) dX10_phaseFor_138 (by decide) ?_
  exact k
theorem bX10_phaseFor_141 {d : Nat} {b : Nat × Nat}  {im : XI} {Q : Option Value → XS → XI → Prop} {l1 : Int32} {l2 : Int32} {l3 : Int32} {l4 : Int32} {l5 : Int32} {l6 : Int32}  (kt : ¬ l3 = 0 → V mX10_phaseFor d b 150 [some (.ref 0), some (.int l1), some (.int l2), some (.int l3), some (.int l4), some (.int l5), some (.int l6), none, none] [] SM im Q) (kf : l3 = 0 → V mX10_phaseFor d b 145 [some (.ref 0), some (.int l1), some (.int l2), some (.int l3), some (.int l4), some (.int l5), some (.int l6), none, none] [] SM im Q) : V mX10_phaseFor d b 141 [some (.ref 0), some (.int l1), some (.int l2), some (.int l3), some (.int l4), some (.int l5), some (.int l6), none, none] [] SM im Q := by
  refine V.iload_n dX10_phaseFor_141 rfl rfl ?_
  refine V.if_ne (tgt := 150) dX10_phaseFor_142 (by decide) (fun h => ?_) (fun h => ?_)
  · exact kt h
  · exact kf h
theorem bX10_phaseFor_145 {d : Nat} {b : Nat × Nat}  {im : XI} {Q : Option Value → XS → XI → Prop} {l1 : Int32} {l2 : Int32} {l3 : Int32} {l4 : Int32} {l5 : Int32} {l6 : Int32}  (k : V mX10_phaseFor d b 152 [some (.ref 0), some (.int l1), some (.int l2), some (.int l3), some (.int l4), some (.int l5), some (.int l6), none, none] [.int l4] SM im Q) : V mX10_phaseFor d b 145 [some (.ref 0), some (.int l1), some (.int l2), some (.int l3), some (.int l4), some (.int l5), some (.int l6), none, none] [] SM im Q := by
  refine V.iload dX10_phaseFor_145 rfl ?_
  refine V.goto (tgt := 152) dX10_phaseFor_147 (by decide) ?_
  exact k
theorem bX10_phaseFor_150 {d : Nat} {b : Nat × Nat}  {im : XI} {Q : Option Value → XS → XI → Prop} {l1 : Int32} {l2 : Int32} {l3 : Int32} {l4 : Int32} {l5 : Int32} {l6 : Int32}  (k : V mX10_phaseFor d b 152 [some (.ref 0), some (.int l1), some (.int l2), some (.int l3), some (.int l4), some (.int l5), some (.int l6), none, none] [.int l5] SM im Q) : V mX10_phaseFor d b 150 [some (.ref 0), some (.int l1), some (.int l2), some (.int l3), some (.int l4), some (.int l5), some (.int l6), none, none] [] SM im Q := by
  refine V.iload dX10_phaseFor_150 rfl ?_
  exact k
theorem bX10_phaseFor_152 {d : Nat} {b : Nat × Nat}  {im : XI} {Q : Option Value → XS → XI → Prop} {l1 : Int32} {l2 : Int32} {l3 : Int32} {l4 : Int32} {l5 : Int32} {l6 : Int32} {s0 : Int32}  (hq : Q (some (.int s0)) SM im) : V mX10_phaseFor d b 152 [some (.ref 0), some (.int l1), some (.int l2), some (.int l3), some (.int l4), some (.int l5), some (.int l6), none, none] [.int s0] SM im Q := by
  exact V.iret rfl dX10_phaseFor_152 hq
theorem bX10_divisor_0 {d : Nat} {b : Nat × Nat} {S : XS} {im : XI} {Q : Option Value → XS → XI → Prop} {l0 : Int32} {l1 : Int32}  (k : V mX10_divisor d b 4 [some (.int l0), some (.int l1), some (.int l0), some (.int l1), none] [] S im Q) : V mX10_divisor d b 0 [some (.int l0), some (.int l1), none, none, none] [] S im Q := by
  refine V.iload_n dX10_divisor_0 rfl rfl ?_
  refine V.istore_n dX10_divisor_1 rfl rfl rfl ?_
  refine V.iload_n dX10_divisor_2 rfl rfl ?_
  refine V.istore_n dX10_divisor_3 rfl rfl rfl ?_
  exact k
theorem bX10_divisor_4 {d : Nat} {b : Nat × Nat} {S : XS} {im : XI} {Q : Option Value → XS → XI → Prop} {l0 : Int32} {l1 : Int32} {l2 : Int32} {l3 : Int32}  (kt : l3 = 0 → V mX10_divisor d b 21 [some (.int l0), some (.int l1), some (.int l2), some (.int l3), none] [] S im Q) (kf : ¬ l3 = 0 → V mX10_divisor d b 8 [some (.int l0), some (.int l1), some (.int l2), some (.int l3), none] [] S im Q) : V mX10_divisor d b 4 [some (.int l0), some (.int l1), some (.int l2), some (.int l3), none] [] S im Q := by
  refine V.iload_n dX10_divisor_4 rfl rfl ?_
  refine V.if_eq (tgt := 21) dX10_divisor_5 (by decide) (fun h => ?_) (fun h => ?_)
  · exact kt h
  · exact kf h
theorem bX10_divisor_8 {d : Nat} {b : Nat × Nat} {S : XS} {im : XI} {Q : Option Value → XS → XI → Prop} {l0 : Int32} {l1 : Int32} {l2 : Int32} {l3 : Int32} (g0 : ¬ l3 = 0) (k : V mX10_divisor d b 4 [some (.int l0), some (.int l1), some (.int l3), some (.int (l2 - l2 / l3 * l3)), none] [] S im Q) : V mX10_divisor d b 8 [some (.int l0), some (.int l1), some (.int l2), some (.int l3), none] [] S im Q := by
  refine V.iload_n dX10_divisor_8 rfl rfl ?_
  refine V.iload_n dX10_divisor_9 rfl rfl ?_
  refine V.irem dX10_divisor_10 g0 ?_
  refine V.istore dX10_divisor_11 rfl rfl ?_
  refine V.iload_n dX10_divisor_13 rfl rfl ?_
  refine V.istore_n dX10_divisor_14 rfl rfl rfl ?_
  refine V.iload dX10_divisor_15 rfl ?_
  refine V.istore_n dX10_divisor_17 rfl rfl rfl ?_
  refine V.goto (tgt := 4) dX10_divisor_18 (by decide) ?_
  exact V.weakm [true, true, true, true, false] rfl (k)
theorem bX10_divisor_21 {d : Nat} {b : Nat × Nat} {S : XS} {im : XI} {Q : Option Value → XS → XI → Prop} {l0 : Int32} {l1 : Int32} {l2 : Int32} {l3 : Int32}  (hq : Q (some (.int l2)) S im) : V mX10_divisor d b 21 [some (.int l0), some (.int l1), some (.int l2), some (.int l3), none] [] S im Q := by
  refine V.iload_n dX10_divisor_21 rfl rfl ?_
  exact V.iret rfl dX10_divisor_22 hq
theorem bX10_odds_0 {d : Nat} {b : Nat × Nat}  {im : XI} {Q : Option Value → XS → XI → Prop} {l1 : Int32} {l2 : Int32} {l3 : Int32} {P : Int32 → XI → Prop}  (hs : SpI mX10_isSet d [.ref 0, .int l1] SM im P) (k : ∀ x2 im2, P x2 im2 → V mX10_odds (d + 1) b 5 [some (.ref 0), some (.int l1), some (.int l2), some (.int l3), none, none] [.int x2] SM im2 Q) : V mX10_odds (d + 1) b 0 [some (.ref 0), some (.int l1), some (.int l2), some (.int l3), none, none] [] SM im Q := by
  refine V.aload_n dX10_odds_0 rfl rfl ?_
  refine V.iload_n dX10_odds_1 rfl rfl ?_
  refine V.cVI rfl vX10_isSet lkX10_175 wX10_isSet (ci := 10) rfl (by rfl) (As := [.int l1]) rfl rfl rfl dX10_odds_2 hs (fun x2 im2 h2 => ?_)
  exact k x2 im2 h2
theorem bX10_odds_5 {d : Nat} {b : Nat × Nat}  {im : XI} {Q : Option Value → XS → XI → Prop} {l1 : Int32} {l2 : Int32} {l3 : Int32} {s0 : Int32}  (kt : s0 = 0 → V mX10_odds d b 27 [some (.ref 0), some (.int l1), some (.int l2), some (.int l3), none, none] [] SM im Q) (kf : ¬ s0 = 0 → V mX10_odds d b 8 [some (.ref 0), some (.int l1), some (.int l2), some (.int l3), none, none] [] SM im Q) : V mX10_odds d b 5 [some (.ref 0), some (.int l1), some (.int l2), some (.int l3), none, none] [.int s0] SM im Q := by
  refine V.if_eq (tgt := 27) dX10_odds_5 (by decide) (fun h => ?_) (fun h => ?_)
  · exact kt h
  · exact kf h
theorem bX10_odds_8 {d : Nat} {b : Nat × Nat}  {im : XI} {Q : Option Value → XS → XI → Prop} {l1 : Int32} {l2 : Int32} {l3 : Int32} {P : Int32 → XI → Prop}  (hs : SpI mX10_in d [.int l2, .int (1 : Int32), .int (99 : Int32)] SM im P) (k : ∀ x2 im2, P x2 im2 → V mX10_odds (d + 1) b 15 [some (.ref 0), some (.int l1), some (.int l2), some (.int l3), none, none] [.int x2] SM im2 Q) : V mX10_odds (d + 1) b 8 [some (.ref 0), some (.int l1), some (.int l2), some (.int l3), none, none] [] SM im Q := by
  refine V.iload_n dX10_odds_8 rfl rfl ?_
  refine V.iconst (v := 1) dX10_odds_9 (by decide) ?_
  refine V.bipush (v := 99) dX10_odds_10 (by decide) ?_
  refine V.cSI rfl vX10_in lkX10_47 sX10_in (As := [.int l2, .int (1 : Int32), .int (99 : Int32)]) rfl rfl rfl dX10_odds_12 hs (fun x2 im2 h2 => ?_)
  exact k x2 im2 h2
theorem bX10_odds_15 {d : Nat} {b : Nat × Nat}  {im : XI} {Q : Option Value → XS → XI → Prop} {l1 : Int32} {l2 : Int32} {l3 : Int32} {s0 : Int32}  (kt : s0 = 0 → V mX10_odds d b 27 [some (.ref 0), some (.int l1), some (.int l2), some (.int l3), none, none] [] SM im Q) (kf : ¬ s0 = 0 → V mX10_odds d b 18 [some (.ref 0), some (.int l1), some (.int l2), some (.int l3), none, none] [] SM im Q) : V mX10_odds d b 15 [some (.ref 0), some (.int l1), some (.int l2), some (.int l3), none, none] [.int s0] SM im Q := by
  refine V.if_eq (tgt := 27) dX10_odds_15 (by decide) (fun h => ?_) (fun h => ?_)
  · exact kt h
  · exact kf h
theorem bX10_odds_18 {d : Nat} {b : Nat × Nat}  {im : XI} {Q : Option Value → XS → XI → Prop} {l1 : Int32} {l2 : Int32} {l3 : Int32} {P : Int32 → XI → Prop}  (hs : SpI mX10_in d [.int l3, .int (0 : Int32), .int (1 : Int32)] SM im P) (k : ∀ x2 im2, P x2 im2 → V mX10_odds (d + 1) b 24 [some (.ref 0), some (.int l1), some (.int l2), some (.int l3), none, none] [.int x2] SM im2 Q) : V mX10_odds (d + 1) b 18 [some (.ref 0), some (.int l1), some (.int l2), some (.int l3), none, none] [] SM im Q := by
  refine V.iload_n dX10_odds_18 rfl rfl ?_
  refine V.iconst (v := 0) dX10_odds_19 (by decide) ?_
  refine V.iconst (v := 1) dX10_odds_20 (by decide) ?_
  refine V.cSI rfl vX10_in lkX10_47 sX10_in (As := [.int l3, .int (0 : Int32), .int (1 : Int32)]) rfl rfl rfl dX10_odds_21 hs (fun x2 im2 h2 => ?_)
  exact k x2 im2 h2
theorem bX10_odds_24 {d : Nat} {b : Nat × Nat}  {im : XI} {Q : Option Value → XS → XI → Prop} {l1 : Int32} {l2 : Int32} {l3 : Int32} {s0 : Int32}  (kt : ¬ s0 = 0 → V mX10_odds d b 33 [some (.ref 0), some (.int l1), some (.int l2), some (.int l3), none, none] [] SM im Q) (kf : s0 = 0 → V mX10_odds d b 27 [some (.ref 0), some (.int l1), some (.int l2), some (.int l3), none, none] [] SM im Q) : V mX10_odds d b 24 [some (.ref 0), some (.int l1), some (.int l2), some (.int l3), none, none] [.int s0] SM im Q := by
  refine V.if_ne (tgt := 33) dX10_odds_24 (by decide) (fun h => ?_) (fun h => ?_)
  · exact kt h
  · exact kf h
theorem bX10_odds_27 {d : Nat} {b : Nat × Nat}  {im : XI} {Q : Option Value → XS → XI → Prop} {l1 : Int32} {l2 : Int32} {l3 : Int32} {P : Int32 → XI → Prop}  (hs : SpI mX10_error d [.ref 0, .int (1 : Int32)] SM im P) (k : ∀ x2 im2, P x2 im2 → V mX10_odds (d + 1) b 32 [some (.ref 0), some (.int l1), some (.int l2), some (.int l3), none, none] [.int x2] SM im2 Q) : V mX10_odds (d + 1) b 27 [some (.ref 0), some (.int l1), some (.int l2), some (.int l3), none, none] [] SM im Q := by
  refine V.aload_n dX10_odds_27 rfl rfl ?_
  refine V.iconst (v := 1) dX10_odds_28 (by decide) ?_
  refine V.cVI rfl vX10_error lkX10_51 wX10_error (ci := 10) rfl (by rfl) (As := [.int (1 : Int32)]) rfl rfl rfl dX10_odds_29 hs (fun x2 im2 h2 => ?_)
  exact k x2 im2 h2
theorem bX10_odds_32 {d : Nat} {b : Nat × Nat}  {im : XI} {Q : Option Value → XS → XI → Prop} {l1 : Int32} {l2 : Int32} {l3 : Int32} {s0 : Int32}  (hq : Q (some (.int s0)) SM im) : V mX10_odds d b 32 [some (.ref 0), some (.int l1), some (.int l2), some (.int l3), none, none] [.int s0] SM im Q := by
  exact V.iret rfl dX10_odds_32 hq
theorem bX10_odds_33 {d : Nat} {b : Nat × Nat}  {im : XI} {Q : Option Value → XS → XI → Prop} {l1 : Int32} {l2 : Int32} {l3 : Int32} {P : Int32 → XI → Prop}  (hs : SpI mX10_momentsOf d [.ref 0, .int l1, .int l2] SM im P) (k : ∀ x2 im2, P x2 im2 → V mX10_odds (d + 1) b 39 [some (.ref 0), some (.int l1), some (.int l2), some (.int l3), none, none] [.int x2] SM im2 Q) : V mX10_odds (d + 1) b 33 [some (.ref 0), some (.int l1), some (.int l2), some (.int l3), none, none] [] SM im Q := by
  refine V.aload_n dX10_odds_33 rfl rfl ?_
  refine V.iload_n dX10_odds_34 rfl rfl ?_
  refine V.iload_n dX10_odds_35 rfl rfl ?_
  refine V.cVI rfl vX10_momentsOf lkX10_206 wX10_momentsOf (ci := 10) rfl (by rfl) (As := [.int l1, .int l2]) rfl rfl rfl dX10_odds_36 hs (fun x2 im2 h2 => ?_)
  exact k x2 im2 h2
theorem bX10_odds_39 {d : Nat} {b : Nat × Nat}  {im : XI} {Q : Option Value → XS → XI → Prop} {l1 : Int32} {l2 : Int32} {l3 : Int32} {s0 : Int32} {P : Int32 → XI → Prop}  (hs : SpI mX10_divisor d [.int s0, .int l2] SM im P) (k : ∀ x2 im2, P x2 im2 → V mX10_odds (d + 1) b 47 [some (.ref 0), some (.int l1), some (.int l2), some (.int l3), some (.int s0), none] [.int x2] SM im2 Q) : V mX10_odds (d + 1) b 39 [some (.ref 0), some (.int l1), some (.int l2), some (.int l3), none, none] [.int s0] SM im Q := by
  refine V.istore dX10_odds_39 rfl rfl ?_
  refine V.iload dX10_odds_41 rfl ?_
  refine V.iload_n dX10_odds_43 rfl rfl ?_
  refine V.cSI rfl vX10_divisor lkX10_212 sX10_divisor (As := [.int s0, .int l2]) rfl rfl rfl dX10_odds_44 hs (fun x2 im2 h2 => ?_)
  exact k x2 im2 h2
theorem bX10_odds_47 {d : Nat} {b : Nat × Nat}  {im : XI} {Q : Option Value → XS → XI → Prop} {l1 : Int32} {l2 : Int32} {l3 : Int32} {l4 : Int32} {s0 : Int32}  (kt : ¬ l3 = 0 → V mX10_odds d b 61 [some (.ref 0), some (.int l1), some (.int l2), some (.int l3), some (.int l4), some (.int s0)] [] SM im Q) (kf : l3 = 0 → V mX10_odds d b 53 [some (.ref 0), some (.int l1), some (.int l2), some (.int l3), some (.int l4), some (.int s0)] [] SM im Q) : V mX10_odds d b 47 [some (.ref 0), some (.int l1), some (.int l2), some (.int l3), some (.int l4), none] [.int s0] SM im Q := by
  refine V.istore dX10_odds_47 rfl rfl ?_
  refine V.iload_n dX10_odds_49 rfl rfl ?_
  refine V.if_ne (tgt := 61) dX10_odds_50 (by decide) (fun h => ?_) (fun h => ?_)
  · exact kt h
  · exact kf h
theorem bX10_odds_53 {d : Nat} {b : Nat × Nat}  {im : XI} {Q : Option Value → XS → XI → Prop} {l1 : Int32} {l2 : Int32} {l3 : Int32} {l4 : Int32} {l5 : Int32} (g0 : ¬ l5 = 0) (k : V mX10_odds d b 65 [some (.ref 0), some (.int l1), some (.int l2), some (.int l3), some (.int l4), some (.int l5)] [.int (l4 / l5)] SM im Q) : V mX10_odds d b 53 [some (.ref 0), some (.int l1), some (.int l2), some (.int l3), some (.int l4), some (.int l5)] [] SM im Q := by
  refine V.iload dX10_odds_53 rfl ?_
  refine V.iload dX10_odds_55 rfl ?_
  refine V.idiv dX10_odds_57 g0 ?_
  refine V.goto (tgt := 65) dX10_odds_58 (by decide) ?_
  exact k
theorem bX10_odds_61 {d : Nat} {b : Nat × Nat}  {im : XI} {Q : Option Value → XS → XI → Prop} {l1 : Int32} {l2 : Int32} {l3 : Int32} {l4 : Int32} {l5 : Int32} (g0 : ¬ l5 = 0) (k : V mX10_odds d b 65 [some (.ref 0), some (.int l1), some (.int l2), some (.int l3), some (.int l4), some (.int l5)] [.int (l2 / l5)] SM im Q) : V mX10_odds d b 61 [some (.ref 0), some (.int l1), some (.int l2), some (.int l3), some (.int l4), some (.int l5)] [] SM im Q := by
  refine V.iload_n dX10_odds_61 rfl rfl ?_
  refine V.iload dX10_odds_62 rfl ?_
  refine V.idiv dX10_odds_64 g0 ?_
  exact k
theorem bX10_odds_65 {d : Nat} {b : Nat × Nat}  {im : XI} {Q : Option Value → XS → XI → Prop} {l1 : Int32} {l2 : Int32} {l3 : Int32} {l4 : Int32} {l5 : Int32} {s0 : Int32}  (hq : Q (some (.int s0)) SM im) : V mX10_odds d b 65 [some (.ref 0), some (.int l1), some (.int l2), some (.int l3), some (.int l4), some (.int l5)] [.int s0] SM im Q := by
  exact V.iret rfl dX10_odds_65 hq
theorem bX10_isShutSo_0 {d : Nat} {b : Nat × Nat}  {im : XI} {Q : Option Value → XS → XI → Prop} {l1 : Int32} {l2 : Int32} {l3 : Int32} {l4 : Int32} {P : XI → Prop}  (hs : SpV mX10_layDown d [.ref 0] SM im P) (k : ∀ im2, P im2 → V mX10_isShutSo (d + 1) b 4 [some (.ref 0), some (.int l1), some (.int l2), some (.int l3), some (.int l4), none, none] [] SM im2 Q) : V mX10_isShutSo (d + 1) b 0 [some (.ref 0), some (.int l1), some (.int l2), some (.int l3), some (.int l4), none, none] [] SM im Q := by
  refine V.aload_n dX10_isShutSo_0 rfl rfl ?_
  refine V.cVV rfl vX10_layDown lkX10_194 wX10_layDown (ci := 10) rfl (by rfl) (As := []) rfl rfl rfl dX10_isShutSo_1 hs (fun im2 h2 => ?_)
  exact k im2 h2
theorem bX10_isShutSo_4 {d : Nat} {b : Nat × Nat}  {im : XI} {Q : Option Value → XS → XI → Prop} {l1 : Int32} {l2 : Int32} {l3 : Int32} {l4 : Int32} {P : XI → Prop}  (hs : SpV mX10_lays1 d [.ref 0, .int l2, .int (2 : Int32), .int l3] SM im P) (k : ∀ im2, P im2 → V mX10_isShutSo (d + 1) b 11 [some (.ref 0), some (.int l1), some (.int l2), some (.int l3), some (.int l4), none, none] [] SM im2 Q) : V mX10_isShutSo (d + 1) b 4 [some (.ref 0), some (.int l1), some (.int l2), some (.int l3), some (.int l4), none, none] [] SM im Q := by
  refine V.aload_n dX10_isShutSo_4 rfl rfl ?_
  refine V.iload_n dX10_isShutSo_5 rfl rfl ?_
  refine V.iconst (v := 2) dX10_isShutSo_6 (by decide) ?_
  refine V.iload_n dX10_isShutSo_7 rfl rfl ?_
  refine V.cVV rfl vX10_lays1 lkX10_163 wX10_lays1 (ci := 10) rfl (by rfl) (As := [.int l2, .int (2 : Int32), .int l3]) rfl rfl rfl dX10_isShutSo_8 hs (fun im2 h2 => ?_)
  exact k im2 h2
theorem bX10_isShutSo_11 {d : Nat} {b : Nat × Nat}  {im : XI} {Q : Option Value → XS → XI → Prop} {l1 : Int32} {l2 : Int32} {l3 : Int32} {l4 : Int32} {P : XI → Prop}  (hs : SpV mX10_lays1 d [.ref 0, .int l2, .int (3 : Int32), .int l4] SM im P) (k : ∀ im2, P im2 → V mX10_isShutSo (d + 1) b 19 [some (.ref 0), some (.int l1), some (.int l2), some (.int l3), some (.int l4), none, none] [] SM im2 Q) : V mX10_isShutSo (d + 1) b 11 [some (.ref 0), some (.int l1), some (.int l2), some (.int l3), some (.int l4), none, none] [] SM im Q := by
  refine V.aload_n dX10_isShutSo_11 rfl rfl ?_
  refine V.iload_n dX10_isShutSo_12 rfl rfl ?_
  refine V.iconst (v := 3) dX10_isShutSo_13 (by decide) ?_
  refine V.iload dX10_isShutSo_14 rfl ?_
  refine V.cVV rfl vX10_lays1 lkX10_163 wX10_lays1 (ci := 10) rfl (by rfl) (As := [.int l2, .int (3 : Int32), .int l4]) rfl rfl rfl dX10_isShutSo_16 hs (fun im2 h2 => ?_)
  exact k im2 h2
theorem bX10_isShutSo_19 {d : Nat} {b : Nat × Nat}  {im : XI} {Q : Option Value → XS → XI → Prop} {l1 : Int32} {l2 : Int32} {l3 : Int32} {l4 : Int32}  (k : V mX10_isShutSo d b 25 [some (.ref 0), some (.int l1), some (.int l2), some (.int l3), some (.int l4), some (.int (1 : Int32)), some (.int (0 : Int32))] [] SM im Q) : V mX10_isShutSo d b 19 [some (.ref 0), some (.int l1), some (.int l2), some (.int l3), some (.int l4), none, none] [] SM im Q := by
  refine V.iconst (v := 1) dX10_isShutSo_19 (by decide) ?_
  refine V.istore dX10_isShutSo_20 rfl rfl ?_
  refine V.iconst (v := 0) dX10_isShutSo_22 (by decide) ?_
  refine V.istore dX10_isShutSo_23 rfl rfl ?_
  exact k
theorem bX10_isShutSo_25 {d : Nat} {b : Nat × Nat}  {im : XI} {Q : Option Value → XS → XI → Prop} {l1 : Int32} {l2 : Int32} {l3 : Int32} {l4 : Int32} {l5 : Int32} {l6 : Int32} {i1 : Nat} (g0 : l1 = nI i1) (g1 : i1 < 4) (kt : (im 10 i1) ≤ l6 → V mX10_isShutSo d b 84 [some (.ref 0), some (.int l1), some (.int l2), some (.int l3), some (.int l4), some (.int l5), some (.int l6)] [] SM im Q) (kf : ¬ (im 10 i1) ≤ l6 → V mX10_isShutSo d b 36 [some (.ref 0), some (.int l1), some (.int l2), some (.int l3), some (.int l4), some (.int l5), some (.int l6)] [] SM im Q) : V mX10_isShutSo d b 25 [some (.ref 0), some (.int l1), some (.int l2), some (.int l3), some (.int l4), some (.int l5), some (.int l6)] [] SM im Q := by
  refine V.iload dX10_isShutSo_25 rfl ?_
  refine V.aload_n dX10_isShutSo_27 rfl rfl ?_
  refine V.getR fX10_37 rfl (by rfl) (by rfl) dX10_isShutSo_28 ?_
  refine V.iload_n dX10_isShutSo_31 rfl rfl ?_
  refine V.iald (i := i1) ⟨by rfl, by rfl⟩ g0 g1 dX10_isShutSo_32 ?_
  refine V.icmp_ge (tgt := 84) dX10_isShutSo_33 (by decide) (fun h => ?_) (fun h => ?_)
  · exact kt h
  · exact kf h
theorem bX10_isShutSo_36 {d : Nat} {b : Nat × Nat}  {im : XI} {Q : Option Value → XS → XI → Prop} {l1 : Int32} {l2 : Int32} {l3 : Int32} {l4 : Int32} {l5 : Int32} {l6 : Int32}  (kt : l5 = 0 → V mX10_isShutSo d b 84 [some (.ref 0), some (.int l1), some (.int l2), some (.int l3), some (.int l4), some (.int l5), some (.int l6)] [] SM im Q) (kf : ¬ l5 = 0 → V mX10_isShutSo d b 41 [some (.ref 0), some (.int l1), some (.int l2), some (.int l3), some (.int l4), some (.int l5), some (.int l6)] [] SM im Q) : V mX10_isShutSo d b 36 [some (.ref 0), some (.int l1), some (.int l2), some (.int l3), some (.int l4), some (.int l5), some (.int l6)] [] SM im Q := by
  refine V.iload dX10_isShutSo_36 rfl ?_
  refine V.if_eq (tgt := 84) dX10_isShutSo_38 (by decide) (fun h => ?_) (fun h => ?_)
  · exact kt h
  · exact kf h
theorem bX10_isShutSo_41 {d : Nat} {b : Nat × Nat}  {im : XI} {Q : Option Value → XS → XI → Prop} {l1 : Int32} {l2 : Int32} {l3 : Int32} {l4 : Int32} {l5 : Int32} {l6 : Int32} {P : Int32 → XI → Prop}  (hs : SpI mX10_shutOf d [.ref 0, .int l2] SM im P) (k : ∀ x2 im2, P x2 im2 → V mX10_isShutSo (d + 1) b 46 [some (.ref 0), some (.int l1), some (.int l2), some (.int l3), some (.int l4), some (.int l5), some (.int l6)] [.int x2] SM im2 Q) : V mX10_isShutSo (d + 1) b 41 [some (.ref 0), some (.int l1), some (.int l2), some (.int l3), some (.int l4), some (.int l5), some (.int l6)] [] SM im Q := by
  refine V.aload_n dX10_isShutSo_41 rfl rfl ?_
  refine V.iload_n dX10_isShutSo_42 rfl rfl ?_
  refine V.cVI rfl vX10_shutOf lkX10_127 wX10_shutOf (ci := 10) rfl (by rfl) (As := [.int l2]) rfl rfl rfl dX10_isShutSo_43 hs (fun x2 im2 h2 => ?_)
  exact k x2 im2 h2
theorem bX10_isShutSo_46 {d : Nat} {b : Nat × Nat}  {im : XI} {Q : Option Value → XS → XI → Prop} {l1 : Int32} {l2 : Int32} {l3 : Int32} {l4 : Int32} {l5 : Int32} {l6 : Int32} {s0 : Int32} {i1 : Nat} (g0 : (((24 : Int32) * l1) + l6) = nI i1) (g1 : i1 < 96) (kt : ¬ s0 = (im 11 i1) → V mX10_isShutSo d b 65 [some (.ref 0), some (.int l1), some (.int l2), some (.int l3), some (.int l4), some (.int l5), some (.int l6)] [] SM im Q) (kf : s0 = (im 11 i1) → V mX10_isShutSo d b 61 [some (.ref 0), some (.int l1), some (.int l2), some (.int l3), some (.int l4), some (.int l5), some (.int l6)] [] SM im Q) : V mX10_isShutSo d b 46 [some (.ref 0), some (.int l1), some (.int l2), some (.int l3), some (.int l4), some (.int l5), some (.int l6)] [.int s0] SM im Q := by
  refine V.aload_n dX10_isShutSo_46 rfl rfl ?_
  refine V.getR fX10_40 rfl (by rfl) (by rfl) dX10_isShutSo_47 ?_
  refine V.bipush (v := 24) dX10_isShutSo_50 (by decide) ?_
  refine V.iload_n dX10_isShutSo_52 rfl rfl ?_
  refine V.imul dX10_isShutSo_53 ?_
  refine V.iload dX10_isShutSo_54 rfl ?_
  refine V.iadd dX10_isShutSo_56 ?_
  refine V.iald (i := i1) ⟨by rfl, by rfl⟩ g0 g1 dX10_isShutSo_57 ?_
  refine V.icmp_ne (tgt := 65) dX10_isShutSo_58 (by decide) (fun h => ?_) (fun h => ?_)
  · exact kt h
  · exact kf h
theorem bX10_isShutSo_61 {d : Nat} {b : Nat × Nat}  {im : XI} {Q : Option Value → XS → XI → Prop} {l1 : Int32} {l2 : Int32} {l3 : Int32} {l4 : Int32} {l5 : Int32} {l6 : Int32}  (k : V mX10_isShutSo d b 66 [some (.ref 0), some (.int l1), some (.int l2), some (.int l3), some (.int l4), some (.int l5), some (.int l6)] [.int (1 : Int32)] SM im Q) : V mX10_isShutSo d b 61 [some (.ref 0), some (.int l1), some (.int l2), some (.int l3), some (.int l4), some (.int l5), some (.int l6)] [] SM im Q := by
  refine V.iconst (v := 1) dX10_isShutSo_61 (by decide) ?_
  refine V.goto (tgt := 66) dX10_isShutSo_62 (by decide) ?_
  exact k
theorem bX10_isShutSo_65 {d : Nat} {b : Nat × Nat}  {im : XI} {Q : Option Value → XS → XI → Prop} {l1 : Int32} {l2 : Int32} {l3 : Int32} {l4 : Int32} {l5 : Int32} {l6 : Int32}  (k : V mX10_isShutSo d b 66 [some (.ref 0), some (.int l1), some (.int l2), some (.int l3), some (.int l4), some (.int l5), some (.int l6)] [.int (0 : Int32)] SM im Q) : V mX10_isShutSo d b 65 [some (.ref 0), some (.int l1), some (.int l2), some (.int l3), some (.int l4), some (.int l5), some (.int l6)] [] SM im Q := by
  refine V.iconst (v := 0) dX10_isShutSo_65 (by decide) ?_
  exact k
theorem bX10_isShutSo_66 {d : Nat} {b : Nat × Nat}  {im : XI} {Q : Option Value → XS → XI → Prop} {l1 : Int32} {l2 : Int32} {l3 : Int32} {l4 : Int32} {l5 : Int32} {l6 : Int32} {s0 : Int32}  (k : V mX10_isShutSo d b 25 [some (.ref 0), some (.int l1), some (.int l2), some (.int l3), some (.int l4), some (.int s0), some (.int (l6 + (1 : Int32)))] [] SM (xup im 1 0 ((im 1 0) + (1 : Int32))) Q) : V mX10_isShutSo d b 66 [some (.ref 0), some (.int l1), some (.int l2), some (.int l3), some (.int l4), some (.int l5), some (.int l6)] [.int s0] SM im Q := by
  refine V.istore dX10_isShutSo_66 rfl rfl ?_
  refine V.aload_n dX10_isShutSo_68 rfl rfl ?_
  refine V.getR fX10_7 rfl (by rfl) (by rfl) dX10_isShutSo_69 ?_
  refine V.iconst (v := 0) dX10_isShutSo_72 (by decide) ?_
  refine V.dup2 dX10_isShutSo_73 rfl rfl ?_
  refine V.iald (i := 0) ⟨by rfl, by rfl⟩ (by rfl) (by decide) dX10_isShutSo_74 ?_
  refine V.iconst (v := 1) dX10_isShutSo_75 (by decide) ?_
  refine V.iadd dX10_isShutSo_76 ?_
  refine V.iast (i := 0) ⟨by rfl, by rfl⟩ (by rfl) (by decide) dX10_isShutSo_77 ?_
  refine V.iinc (v := (l6 + (1 : Int32))) dX10_isShutSo_78 rfl rfl rfl ?_
  refine V.goto (tgt := 25) dX10_isShutSo_81 (by decide) ?_
  exact k
theorem bX10_isShutSo_84 {d : Nat} {b : Nat × Nat}  {im : XI} {Q : Option Value → XS → XI → Prop} {l1 : Int32} {l2 : Int32} {l3 : Int32} {l4 : Int32} {l5 : Int32} {l6 : Int32} {P : XI → Prop}  (hs : SpV mX10_layBack d [.ref 0] SM im P) (k : ∀ im2, P im2 → V mX10_isShutSo (d + 1) b 88 [some (.ref 0), some (.int l1), some (.int l2), some (.int l3), some (.int l4), some (.int l5), some (.int l6)] [] SM im2 Q) : V mX10_isShutSo (d + 1) b 84 [some (.ref 0), some (.int l1), some (.int l2), some (.int l3), some (.int l4), some (.int l5), some (.int l6)] [] SM im Q := by
  refine V.aload_n dX10_isShutSo_84 rfl rfl ?_
  refine V.cVV rfl vX10_layBack lkX10_197 wX10_layBack (ci := 10) rfl (by rfl) (As := []) rfl rfl rfl dX10_isShutSo_85 hs (fun im2 h2 => ?_)
  exact k im2 h2
theorem bX10_isShutSo_88 {d : Nat} {b : Nat × Nat}  {im : XI} {Q : Option Value → XS → XI → Prop} {l1 : Int32} {l2 : Int32} {l3 : Int32} {l4 : Int32} {l5 : Int32} {l6 : Int32} (g0 : l5 = 0 ∨ l5 = 1) (hq : Q (some (.int l5)) SM im) : V mX10_isShutSo d b 88 [some (.ref 0), some (.int l1), some (.int l2), some (.int l3), some (.int l4), some (.int l5), some (.int l6)] [] SM im Q := by
  refine V.iload dX10_isShutSo_88 rfl ?_
  exact V.zret rfl g0 dX10_isShutSo_90 hq
theorem bX10_fits_0 {d : Nat} {b : Nat × Nat}  {im : XI} {Q : Option Value → XS → XI → Prop} {l1 : Int32} {l2 : Int32} {l3 : Int32} {P : Int32 → XI → Prop}  (hs : SpI mX10_isPerson d [.ref 0, .int l2] SM im P) (k : ∀ x2 im2, P x2 im2 → V mX10_fits (d + 1) b 5 [some (.ref 0), some (.int l1), some (.int l2), some (.int l3), none, none, none, none, none, none] [.int x2] SM im2 Q) : V mX10_fits (d + 1) b 0 [some (.ref 0), some (.int l1), some (.int l2), some (.int l3), none, none, none, none, none, none] [] SM im Q := by
  refine V.aload_n dX10_fits_0 rfl rfl ?_
  refine V.iload_n dX10_fits_1 rfl rfl ?_
  refine V.cVI rfl vX10_isPerson lkX10_166 wX10_isPerson (ci := 10) rfl (by rfl) (As := [.int l2]) rfl rfl rfl dX10_fits_2 hs (fun x2 im2 h2 => ?_)
  exact k x2 im2 h2
theorem bX10_fits_5 {d : Nat} {b : Nat × Nat}  {im : XI} {Q : Option Value → XS → XI → Prop} {l1 : Int32} {l2 : Int32} {l3 : Int32} {s0 : Int32}  (kt : s0 = 0 → V mX10_fits d b 25 [some (.ref 0), some (.int l1), some (.int l2), some (.int l3), none, none, none, none, none, none] [] SM im Q) (kf : ¬ s0 = 0 → V mX10_fits d b 8 [some (.ref 0), some (.int l1), some (.int l2), some (.int l3), none, none, none, none, none, none] [] SM im Q) : V mX10_fits d b 5 [some (.ref 0), some (.int l1), some (.int l2), some (.int l3), none, none, none, none, none, none] [.int s0] SM im Q := by
  refine V.if_eq (tgt := 25) dX10_fits_5 (by decide) (fun h => ?_) (fun h => ?_)
  · exact kt h
  · exact kf h
theorem bX10_fits_8 {d : Nat} {b : Nat × Nat}  {im : XI} {Q : Option Value → XS → XI → Prop} {l1 : Int32} {l2 : Int32} {l3 : Int32} {P : Int32 → XI → Prop}  (hs : SpI mX10_in d [.int l3, .int (0 : Int32), .int (1 : Int32)] SM im P) (k : ∀ x2 im2, P x2 im2 → V mX10_fits (d + 1) b 14 [some (.ref 0), some (.int l1), some (.int l2), some (.int l3), none, none, none, none, none, none] [.int x2] SM im2 Q) : V mX10_fits (d + 1) b 8 [some (.ref 0), some (.int l1), some (.int l2), some (.int l3), none, none, none, none, none, none] [] SM im Q := by
  refine V.iload_n dX10_fits_8 rfl rfl ?_
  refine V.iconst (v := 0) dX10_fits_9 (by decide) ?_
  refine V.iconst (v := 1) dX10_fits_10 (by decide) ?_
  refine V.cSI rfl vX10_in lkX10_47 sX10_in (As := [.int l3, .int (0 : Int32), .int (1 : Int32)]) rfl rfl rfl dX10_fits_11 hs (fun x2 im2 h2 => ?_)
  exact k x2 im2 h2
theorem bX10_fits_14 {d : Nat} {b : Nat × Nat}  {im : XI} {Q : Option Value → XS → XI → Prop} {l1 : Int32} {l2 : Int32} {l3 : Int32} {s0 : Int32}  (kt : s0 = 0 → V mX10_fits d b 25 [some (.ref 0), some (.int l1), some (.int l2), some (.int l3), none, none, none, none, none, none] [] SM im Q) (kf : ¬ s0 = 0 → V mX10_fits d b 17 [some (.ref 0), some (.int l1), some (.int l2), some (.int l3), none, none, none, none, none, none] [] SM im Q) : V mX10_fits d b 14 [some (.ref 0), some (.int l1), some (.int l2), some (.int l3), none, none, none, none, none, none] [.int s0] SM im Q := by
  refine V.if_eq (tgt := 25) dX10_fits_14 (by decide) (fun h => ?_) (fun h => ?_)
  · exact kt h
  · exact kf h
theorem bX10_fits_17 {d : Nat} {b : Nat × Nat}  {im : XI} {Q : Option Value → XS → XI → Prop} {l1 : Int32} {l2 : Int32} {l3 : Int32} {P : Int32 → XI → Prop}  (hs : SpI mX10_lacks d [.ref 0, .int l1] SM im P) (k : ∀ x2 im2, P x2 im2 → V mX10_fits (d + 1) b 22 [some (.ref 0), some (.int l1), some (.int l2), some (.int l3), none, none, none, none, none, none] [.int x2] SM im2 Q) : V mX10_fits (d + 1) b 17 [some (.ref 0), some (.int l1), some (.int l2), some (.int l3), none, none, none, none, none, none] [] SM im Q := by
  refine V.aload_n dX10_fits_17 rfl rfl ?_
  refine V.iload_n dX10_fits_18 rfl rfl ?_
  refine V.cVI rfl vX10_lacks lkX10_215 wX10_lacks (ci := 10) rfl (by rfl) (As := [.int l1]) rfl rfl rfl dX10_fits_19 hs (fun x2 im2 h2 => ?_)
  exact k x2 im2 h2
theorem bX10_fits_22 {d : Nat} {b : Nat × Nat}  {im : XI} {Q : Option Value → XS → XI → Prop} {l1 : Int32} {l2 : Int32} {l3 : Int32} {s0 : Int32}  (k : V mX10_fits d b 26 [some (.ref 0), some (.int l1), some (.int l2), some (.int l3), none, none, none, none, none, none] [.int s0] SM im Q) : V mX10_fits d b 22 [some (.ref 0), some (.int l1), some (.int l2), some (.int l3), none, none, none, none, none, none] [.int s0] SM im Q := by
  refine V.goto (tgt := 26) dX10_fits_22 (by decide) ?_
  exact k
theorem bX10_fits_25 {d : Nat} {b : Nat × Nat}  {im : XI} {Q : Option Value → XS → XI → Prop} {l1 : Int32} {l2 : Int32} {l3 : Int32}  (k : V mX10_fits d b 26 [some (.ref 0), some (.int l1), some (.int l2), some (.int l3), none, none, none, none, none, none] [.int (1 : Int32)] SM im Q) : V mX10_fits d b 25 [some (.ref 0), some (.int l1), some (.int l2), some (.int l3), none, none, none, none, none, none] [] SM im Q := by
  refine V.iconst (v := 1) dX10_fits_25 (by decide) ?_
  exact k
theorem bX10_fits_26 {d : Nat} {b : Nat × Nat}  {im : XI} {Q : Option Value → XS → XI → Prop} {l1 : Int32} {l2 : Int32} {l3 : Int32} {s0 : Int32}  (kt : s0 = 0 → V mX10_fits d b 40 [some (.ref 0), some (.int l1), some (.int l2), some (.int l3), some (.int s0), none, none, none, none, none] [] SM im Q) (kf : ¬ s0 = 0 → V mX10_fits d b 33 [some (.ref 0), some (.int l1), some (.int l2), some (.int l3), some (.int s0), none, none, none, none, none] [] SM im Q) : V mX10_fits d b 26 [some (.ref 0), some (.int l1), some (.int l2), some (.int l3), none, none, none, none, none, none] [.int s0] SM im Q := by
  refine V.istore dX10_fits_26 rfl rfl ?_
  refine V.iload dX10_fits_28 rfl ?_
  refine V.if_eq (tgt := 40) dX10_fits_30 (by decide) (fun h => ?_) (fun h => ?_)
  · exact kt h
  · exact kf h
theorem bX10_fits_33 {d : Nat} {b : Nat × Nat}  {im : XI} {Q : Option Value → XS → XI → Prop} {l1 : Int32} {l2 : Int32} {l3 : Int32} {l4 : Int32} {P : Int32 → XI → Prop}  (hs : SpI mX10_error d [.ref 0, .int l4] SM im P) (k : ∀ x2 im2, P x2 im2 → V mX10_fits (d + 1) b 39 [some (.ref 0), some (.int l1), some (.int l2), some (.int l3), some (.int l4), none, none, none, none, none] [.int x2] SM im2 Q) : V mX10_fits (d + 1) b 33 [some (.ref 0), some (.int l1), some (.int l2), some (.int l3), some (.int l4), none, none, none, none, none] [] SM im Q := by
  refine V.aload_n dX10_fits_33 rfl rfl ?_
  refine V.iload dX10_fits_34 rfl ?_
  refine V.cVI rfl vX10_error lkX10_51 wX10_error (ci := 10) rfl (by rfl) (As := [.int l4]) rfl rfl rfl dX10_fits_36 hs (fun x2 im2 h2 => ?_)
  exact k x2 im2 h2
theorem bX10_fits_39 {d : Nat} {b : Nat × Nat}  {im : XI} {Q : Option Value → XS → XI → Prop} {l1 : Int32} {l2 : Int32} {l3 : Int32} {l4 : Int32} {s0 : Int32}  (hq : Q (some (.int s0)) SM im) : V mX10_fits d b 39 [some (.ref 0), some (.int l1), some (.int l2), some (.int l3), some (.int l4), none, none, none, none, none] [.int s0] SM im Q := by
  exact V.iret rfl dX10_fits_39 hq
theorem bX10_fits_40 {d : Nat} {b : Nat × Nat}  {im : XI} {Q : Option Value → XS → XI → Prop} {l1 : Int32} {l2 : Int32} {l3 : Int32} {l4 : Int32}  (k : V mX10_fits d b 50 [some (.ref 0), some (.int l1), some (.int l2), some (.int l3), some (.int l4), some (.int (0 : Int32)), some (.int (-1 : Int32)), some (.int (12 : Int32)), none, none] [] SM im Q) : V mX10_fits d b 40 [some (.ref 0), some (.int l1), some (.int l2), some (.int l3), some (.int l4), none, none, none, none, none] [] SM im Q := by
  refine V.iconst (v := 0) dX10_fits_40 (by decide) ?_
  refine V.istore dX10_fits_41 rfl rfl ?_
  refine V.iconst (v := -1) dX10_fits_43 (by decide) ?_
  refine V.istore dX10_fits_44 rfl rfl ?_
  refine V.bipush (v := 12) dX10_fits_46 (by decide) ?_
  refine V.istore dX10_fits_48 rfl rfl ?_
  exact k
theorem bX10_fits_50 {d : Nat} {b : Nat × Nat}  {im : XI} {Q : Option Value → XS → XI → Prop} {l1 : Int32} {l2 : Int32} {l3 : Int32} {l4 : Int32} {l5 : Int32} {l6 : Int32} {l7 : Int32}  (kt : l7 ≤ 0 → V mX10_fits d b 125 [some (.ref 0), some (.int l1), some (.int l2), some (.int l3), some (.int l4), some (.int l5), some (.int l6), some (.int l7), none, none] [] SM im Q) (kf : ¬ l7 ≤ 0 → V mX10_fits d b 55 [some (.ref 0), some (.int l1), some (.int l2), some (.int l3), some (.int l4), some (.int l5), some (.int l6), some (.int l7), none, none] [] SM im Q) : V mX10_fits d b 50 [some (.ref 0), some (.int l1), some (.int l2), some (.int l3), some (.int l4), some (.int l5), some (.int l6), some (.int l7), none, none] [] SM im Q := by
  refine V.iload dX10_fits_50 rfl ?_
  refine V.if_le (tgt := 125) dX10_fits_52 (by decide) (fun h => ?_) (fun h => ?_)
  · exact kt h
  · exact kf h
theorem bX10_fits_55 {d : Nat} {b : Nat × Nat}  {im : XI} {Q : Option Value → XS → XI → Prop} {l1 : Int32} {l2 : Int32} {l3 : Int32} {l4 : Int32} {l5 : Int32} {l6 : Int32} {l7 : Int32}  (k : V mX10_fits d b 61 [some (.ref 0), some (.int l1), some (.int l2), some (.int l3), some (.int l4), some (.int l5), some (.int l6), some (.int l7), some (.int (l7 - (1 : Int32))), none] [] SM im Q) : V mX10_fits d b 55 [some (.ref 0), some (.int l1), some (.int l2), some (.int l3), some (.int l4), some (.int l5), some (.int l6), some (.int l7), none, none] [] SM im Q := by
  refine V.iload dX10_fits_55 rfl ?_
  refine V.iconst (v := 1) dX10_fits_57 (by decide) ?_
  refine V.isub dX10_fits_58 ?_
  refine V.istore dX10_fits_59 rfl rfl ?_
  exact k
theorem bX10_fits_61 {d : Nat} {b : Nat × Nat}  {im : XI} {Q : Option Value → XS → XI → Prop} {l1 : Int32} {l2 : Int32} {l3 : Int32} {l4 : Int32} {l5 : Int32} {l6 : Int32} {l7 : Int32} {l8 : Int32}  (kt : l8 < 0 → V mX10_fits d b 119 [some (.ref 0), some (.int l1), some (.int l2), some (.int l3), some (.int l4), some (.int l5), some (.int l6), some (.int l7), some (.int l8), none] [] SM im Q) (kf : ¬ l8 < 0 → V mX10_fits d b 66 [some (.ref 0), some (.int l1), some (.int l2), some (.int l3), some (.int l4), some (.int l5), some (.int l6), some (.int l7), some (.int l8), none] [] SM im Q) : V mX10_fits d b 61 [some (.ref 0), some (.int l1), some (.int l2), some (.int l3), some (.int l4), some (.int l5), some (.int l6), some (.int l7), some (.int l8), none] [] SM im Q := by
  refine V.iload dX10_fits_61 rfl ?_
  refine V.if_lt (tgt := 119) dX10_fits_63 (by decide) (fun h => ?_) (fun h => ?_)
  · exact kt h
  · exact kf h
theorem bX10_fits_66 {d : Nat} {b : Nat × Nat}  {im : XI} {Q : Option Value → XS → XI → Prop} {l1 : Int32} {l2 : Int32} {l3 : Int32} {l4 : Int32} {l5 : Int32} {l6 : Int32} {l7 : Int32} {l8 : Int32} {P : Int32 → XI → Prop}  (hs : SpI mX10_isShutSo d [.ref 0, .int l1, .int l2, .int l7, .int l8] SM im P) (k : ∀ x2 im2, P x2 im2 → V mX10_fits (d + 1) b 76 [some (.ref 0), some (.int l1), some (.int l2), some (.int l3), some (.int l4), some (.int l5), some (.int l6), some (.int l7), some (.int l8), none] [.int x2] SM im2 Q) : V mX10_fits (d + 1) b 66 [some (.ref 0), some (.int l1), some (.int l2), some (.int l3), some (.int l4), some (.int l5), some (.int l6), some (.int l7), some (.int l8), none] [] SM im Q := by
  refine V.aload_n dX10_fits_66 rfl rfl ?_
  refine V.iload_n dX10_fits_67 rfl rfl ?_
  refine V.iload_n dX10_fits_68 rfl rfl ?_
  refine V.iload dX10_fits_69 rfl ?_
  refine V.iload dX10_fits_71 rfl ?_
  refine V.cVI rfl vX10_isShutSo lkX10_218 wX10_isShutSo (ci := 10) rfl (by rfl) (As := [.int l1, .int l2, .int l7, .int l8]) rfl rfl rfl dX10_fits_73 hs (fun x2 im2 h2 => ?_)
  exact k x2 im2 h2
theorem bX10_fits_76 {d : Nat} {b : Nat × Nat}  {im : XI} {Q : Option Value → XS → XI → Prop} {l1 : Int32} {l2 : Int32} {l3 : Int32} {l4 : Int32} {l5 : Int32} {l6 : Int32} {l7 : Int32} {l8 : Int32} {s0 : Int32}  (kt : s0 = 0 → V mX10_fits d b 89 [some (.ref 0), some (.int l1), some (.int l2), some (.int l3), some (.int l4), some (.int l5), some (.int l6), some (.int l7), some (.int l8), some (.int s0)] [.int l5] SM im Q) (kf : ¬ s0 = 0 → V mX10_fits d b 85 [some (.ref 0), some (.int l1), some (.int l2), some (.int l3), some (.int l4), some (.int l5), some (.int l6), some (.int l7), some (.int l8), some (.int s0)] [.int l5] SM im Q) : V mX10_fits d b 76 [some (.ref 0), some (.int l1), some (.int l2), some (.int l3), some (.int l4), some (.int l5), some (.int l6), some (.int l7), some (.int l8), none] [.int s0] SM im Q := by
  refine V.istore dX10_fits_76 rfl rfl ?_
  refine V.iload dX10_fits_78 rfl ?_
  refine V.iload dX10_fits_80 rfl ?_
  refine V.if_eq (tgt := 89) dX10_fits_82 (by decide) (fun h => ?_) (fun h => ?_)
  · exact kt h
  · exact kf h
theorem bX10_fits_85 {d : Nat} {b : Nat × Nat}  {im : XI} {Q : Option Value → XS → XI → Prop} {l1 : Int32} {l2 : Int32} {l3 : Int32} {l4 : Int32} {l5 : Int32} {l6 : Int32} {l7 : Int32} {l8 : Int32} {l9 : Int32} {s0 : Int32}  (k : V mX10_fits d b 90 [some (.ref 0), some (.int l1), some (.int l2), some (.int l3), some (.int l4), some (.int l5), some (.int l6), some (.int l7), some (.int l8), some (.int l9)] [.int (1 : Int32), .int s0] SM im Q) : V mX10_fits d b 85 [some (.ref 0), some (.int l1), some (.int l2), some (.int l3), some (.int l4), some (.int l5), some (.int l6), some (.int l7), some (.int l8), some (.int l9)] [.int s0] SM im Q := by
  refine V.iconst (v := 1) dX10_fits_85 (by decide) ?_
  refine V.goto (tgt := 90) dX10_fits_86 (by decide) ?_
  exact k
theorem bX10_fits_89 {d : Nat} {b : Nat × Nat}  {im : XI} {Q : Option Value → XS → XI → Prop} {l1 : Int32} {l2 : Int32} {l3 : Int32} {l4 : Int32} {l5 : Int32} {l6 : Int32} {l7 : Int32} {l8 : Int32} {l9 : Int32} {s0 : Int32}  (k : V mX10_fits d b 90 [some (.ref 0), some (.int l1), some (.int l2), some (.int l3), some (.int l4), some (.int l5), some (.int l6), some (.int l7), some (.int l8), some (.int l9)] [.int (0 : Int32), .int s0] SM im Q) : V mX10_fits d b 89 [some (.ref 0), some (.int l1), some (.int l2), some (.int l3), some (.int l4), some (.int l5), some (.int l6), some (.int l7), some (.int l8), some (.int l9)] [.int s0] SM im Q := by
  refine V.iconst (v := 0) dX10_fits_89 (by decide) ?_
  exact k
theorem bX10_fits_90 {d : Nat} {b : Nat × Nat}  {im : XI} {Q : Option Value → XS → XI → Prop} {l1 : Int32} {l2 : Int32} {l3 : Int32} {l4 : Int32} {l5 : Int32} {l6 : Int32} {l7 : Int32} {l8 : Int32} {l9 : Int32} {s0 : Int32} {s1 : Int32}  (kt : l9 = 0 → V mX10_fits d b 109 [some (.ref 0), some (.int l1), some (.int l2), some (.int l3), some (.int l4), some (.int (s0 + s1)), some (.int l6), some (.int l7), some (.int l8), some (.int l9)] [] SM im Q) (kf : ¬ l9 = 0 → V mX10_fits d b 98 [some (.ref 0), some (.int l1), some (.int l2), some (.int l3), some (.int l4), some (.int (s0 + s1)), some (.int l6), some (.int l7), some (.int l8), some (.int l9)] [] SM im Q) : V mX10_fits d b 90 [some (.ref 0), some (.int l1), some (.int l2), some (.int l3), some (.int l4), some (.int l5), some (.int l6), some (.int l7), some (.int l8), some (.int l9)] [.int s1, .int s0] SM im Q := by
  refine V.iadd dX10_fits_90 ?_
  refine V.istore dX10_fits_91 rfl rfl ?_
  refine V.iload dX10_fits_93 rfl ?_
  refine V.if_eq (tgt := 109) dX10_fits_95 (by decide) (fun h => ?_) (fun h => ?_)
  · exact kt h
  · exact kf h
theorem bX10_fits_98 {d : Nat} {b : Nat × Nat}  {im : XI} {Q : Option Value → XS → XI → Prop} {l1 : Int32} {l2 : Int32} {l3 : Int32} {l4 : Int32} {l5 : Int32} {l6 : Int32} {l7 : Int32} {l8 : Int32} {l9 : Int32}  (k : V mX10_fits d b 111 [some (.ref 0), some (.int l1), some (.int l2), some (.int l3), some (.int l4), some (.int l5), some (.int l6), some (.int l7), some (.int l8), some (.int l9)] [.int (((100 : Int32) * l7) + l8)] SM im Q) : V mX10_fits d b 98 [some (.ref 0), some (.int l1), some (.int l2), some (.int l3), some (.int l4), some (.int l5), some (.int l6), some (.int l7), some (.int l8), some (.int l9)] [] SM im Q := by
  refine V.bipush (v := 100) dX10_fits_98 (by decide) ?_
  refine V.iload dX10_fits_100 rfl ?_
  refine V.imul dX10_fits_102 ?_
  refine V.iload dX10_fits_103 rfl ?_
  refine V.iadd dX10_fits_105 ?_
  refine V.goto (tgt := 111) dX10_fits_106 (by decide) ?_
  exact k
theorem bX10_fits_109 {d : Nat} {b : Nat × Nat}  {im : XI} {Q : Option Value → XS → XI → Prop} {l1 : Int32} {l2 : Int32} {l3 : Int32} {l4 : Int32} {l5 : Int32} {l6 : Int32} {l7 : Int32} {l8 : Int32} {l9 : Int32}  (k : V mX10_fits d b 111 [some (.ref 0), some (.int l1), some (.int l2), some (.int l3), some (.int l4), some (.int l5), some (.int l6), some (.int l7), some (.int l8), some (.int l9)] [.int l6] SM im Q) : V mX10_fits d b 109 [some (.ref 0), some (.int l1), some (.int l2), some (.int l3), some (.int l4), some (.int l5), some (.int l6), some (.int l7), some (.int l8), some (.int l9)] [] SM im Q := by
  refine V.iload dX10_fits_109 rfl ?_
  exact k
theorem bX10_fits_111 {d : Nat} {b : Nat × Nat}  {im : XI} {Q : Option Value → XS → XI → Prop} {l1 : Int32} {l2 : Int32} {l3 : Int32} {l4 : Int32} {l5 : Int32} {l6 : Int32} {l7 : Int32} {l8 : Int32} {l9 : Int32} {s0 : Int32}  (k : V mX10_fits d b 61 [some (.ref 0), some (.int l1), some (.int l2), some (.int l3), some (.int l4), some (.int l5), some (.int s0), some (.int l7), some (.int (l8 + (-1 : Int32))), none] [] SM im Q) : V mX10_fits d b 111 [some (.ref 0), some (.int l1), some (.int l2), some (.int l3), some (.int l4), some (.int l5), some (.int l6), some (.int l7), some (.int l8), some (.int l9)] [.int s0] SM im Q := by
  refine V.istore dX10_fits_111 rfl rfl ?_
  refine V.iinc (v := (l8 + (-1 : Int32))) dX10_fits_113 rfl rfl rfl ?_
  refine V.goto (tgt := 61) dX10_fits_116 (by decide) ?_
  exact V.weakm [true, true, true, true, true, true, true, true, true, false] rfl (k)
theorem bX10_fits_119 {d : Nat} {b : Nat × Nat}  {im : XI} {Q : Option Value → XS → XI → Prop} {l1 : Int32} {l2 : Int32} {l3 : Int32} {l4 : Int32} {l5 : Int32} {l6 : Int32} {l7 : Int32} {l8 : Int32}  (k : V mX10_fits d b 50 [some (.ref 0), some (.int l1), some (.int l2), some (.int l3), some (.int l4), some (.int l5), some (.int l6), some (.int (l7 + (-1 : Int32))), none, none] [] SM im Q) : V mX10_fits d b 119 [some (.ref 0), some (.int l1), some (.int l2), some (.int l3), some (.int l4), some (.int l5), some (.int l6), some (.int l7), some (.int l8), none] [] SM im Q := by
  refine V.iinc (v := (l7 + (-1 : Int32))) dX10_fits_119 rfl rfl rfl ?_
  refine V.goto (tgt := 50) dX10_fits_122 (by decide) ?_
  exact V.weakm [true, true, true, true, true, true, true, true, false, true] rfl (k)
theorem bX10_fits_125 {d : Nat} {b : Nat × Nat}  {im : XI} {Q : Option Value → XS → XI → Prop} {l1 : Int32} {l2 : Int32} {l3 : Int32} {l4 : Int32} {l5 : Int32} {l6 : Int32} {l7 : Int32}  (kt : ¬ l3 = 0 → V mX10_fits d b 134 [some (.ref 0), some (.int l1), some (.int l2), some (.int l3), some (.int l4), some (.int l5), some (.int l6), some (.int l7), none, none] [] SM im Q) (kf : l3 = 0 → V mX10_fits d b 129 [some (.ref 0), some (.int l1), some (.int l2), some (.int l3), some (.int l4), some (.int l5), some (.int l6), some (.int l7), none, none] [] SM im Q) : V mX10_fits d b 125 [some (.ref 0), some (.int l1), some (.int l2), some (.int l3), some (.int l4), some (.int l5), some (.int l6), some (.int l7), none, none] [] SM im Q := by
  refine V.iload_n dX10_fits_125 rfl rfl ?_
  refine V.if_ne (tgt := 134) dX10_fits_126 (by decide) (fun h => ?_) (fun h => ?_)
  · exact kt h
  · exact kf h
theorem bX10_fits_129 {d : Nat} {b : Nat × Nat}  {im : XI} {Q : Option Value → XS → XI → Prop} {l1 : Int32} {l2 : Int32} {l3 : Int32} {l4 : Int32} {l5 : Int32} {l6 : Int32} {l7 : Int32}  (k : V mX10_fits d b 150 [some (.ref 0), some (.int l1), some (.int l2), some (.int l3), some (.int l4), some (.int l5), some (.int l6), some (.int l7), none, none] [.int l5] SM im Q) : V mX10_fits d b 129 [some (.ref 0), some (.int l1), some (.int l2), some (.int l3), some (.int l4), some (.int l5), some (.int l6), some (.int l7), none, none] [] SM im Q := by
  refine V.iload dX10_fits_129 rfl ?_
  refine V.goto (tgt := 150) dX10_fits_131 (by decide) ?_
  exact k
theorem bX10_fits_134 {d : Nat} {b : Nat × Nat}  {im : XI} {Q : Option Value → XS → XI → Prop} {l1 : Int32} {l2 : Int32} {l3 : Int32} {l4 : Int32} {l5 : Int32} {l6 : Int32} {l7 : Int32}  (kt : ¬ l6 = (-1 : Int32) → V mX10_fits d b 148 [some (.ref 0), some (.int l1), some (.int l2), some (.int l3), some (.int l4), some (.int l5), some (.int l6), some (.int l7), none, none] [] SM im Q) (kf : l6 = (-1 : Int32) → V mX10_fits d b 140 [some (.ref 0), some (.int l1), some (.int l2), some (.int l3), some (.int l4), some (.int l5), some (.int l6), some (.int l7), none, none] [] SM im Q) : V mX10_fits d b 134 [some (.ref 0), some (.int l1), some (.int l2), some (.int l3), some (.int l4), some (.int l5), some (.int l6), some (.int l7), none, none] [] SM im Q := by
  refine V.iload dX10_fits_134 rfl ?_
  refine V.iconst (v := -1) dX10_fits_136 (by decide) ?_
  refine V.icmp_ne (tgt := 148) dX10_fits_137 (by decide) (fun h => ?_) (fun h => ?_)
  · exact kt h
  · exact kf h
theorem bX10_fits_140 {d : Nat} {b : Nat × Nat}  {im : XI} {Q : Option Value → XS → XI → Prop} {l1 : Int32} {l2 : Int32} {l3 : Int32} {l4 : Int32} {l5 : Int32} {l6 : Int32} {l7 : Int32} {P : Int32 → XI → Prop}  (hs : SpI mX10_error d [.ref 0, .int (2 : Int32)] SM im P) (k : ∀ x2 im2, P x2 im2 → V mX10_fits (d + 1) b 145 [some (.ref 0), some (.int l1), some (.int l2), some (.int l3), some (.int l4), some (.int l5), some (.int l6), some (.int l7), none, none] [.int x2] SM im2 Q) : V mX10_fits (d + 1) b 140 [some (.ref 0), some (.int l1), some (.int l2), some (.int l3), some (.int l4), some (.int l5), some (.int l6), some (.int l7), none, none] [] SM im Q := by
  refine V.aload_n dX10_fits_140 rfl rfl ?_
  refine V.iconst (v := 2) dX10_fits_141 (by decide) ?_
  refine V.cVI rfl vX10_error lkX10_51 wX10_error (ci := 10) rfl (by rfl) (As := [.int (2 : Int32)]) rfl rfl rfl dX10_fits_142 hs (fun x2 im2 h2 => ?_)
  exact k x2 im2 h2
theorem bX10_fits_145 {d : Nat} {b : Nat × Nat}  {im : XI} {Q : Option Value → XS → XI → Prop} {l1 : Int32} {l2 : Int32} {l3 : Int32} {l4 : Int32} {l5 : Int32} {l6 : Int32} {l7 : Int32} {s0 : Int32}  (k : V mX10_fits d b 150 [some (.ref 0), some (.int l1), some (.int l2), some (.int l3), some (.int l4), some (.int l5), some (.int l6), some (.int l7), none, none] [.int s0] SM im Q) : V mX10_fits d b 145 [some (.ref 0), some (.int l1), some (.int l2), some (.int l3), some (.int l4), some (.int l5), some (.int l6), some (.int l7), none, none] [.int s0] SM im Q := by
  refine V.goto (tgt := 150) dX10_fits_145 (by decide) ?_
  exact k
theorem bX10_fits_148 {d : Nat} {b : Nat × Nat}  {im : XI} {Q : Option Value → XS → XI → Prop} {l1 : Int32} {l2 : Int32} {l3 : Int32} {l4 : Int32} {l5 : Int32} {l6 : Int32} {l7 : Int32}  (k : V mX10_fits d b 150 [some (.ref 0), some (.int l1), some (.int l2), some (.int l3), some (.int l4), some (.int l5), some (.int l6), some (.int l7), none, none] [.int l6] SM im Q) : V mX10_fits d b 148 [some (.ref 0), some (.int l1), some (.int l2), some (.int l3), some (.int l4), some (.int l5), some (.int l6), some (.int l7), none, none] [] SM im Q := by
  refine V.iload dX10_fits_148 rfl ?_
  exact k
theorem bX10_fits_150 {d : Nat} {b : Nat × Nat}  {im : XI} {Q : Option Value → XS → XI → Prop} {l1 : Int32} {l2 : Int32} {l3 : Int32} {l4 : Int32} {l5 : Int32} {l6 : Int32} {l7 : Int32} {s0 : Int32}  (hq : Q (some (.int s0)) SM im) : V mX10_fits d b 150 [some (.ref 0), some (.int l1), some (.int l2), some (.int l3), some (.int l4), some (.int l5), some (.int l6), some (.int l7), none, none] [.int s0] SM im Q := by
  exact V.iret rfl dX10_fits_150 hq
theorem bX10_starts_0 {d : Nat} {b : Nat × Nat}  {im : XI} {Q : Option Value → XS → XI → Prop} {l1 : Int32}  (kt : (30 : Int32) ≤ (im 0 12) → V mX10_starts d b 29 [some (.ref 0), some (.int l1)] [] SM im Q) (kf : ¬ (30 : Int32) ≤ (im 0 12) → V mX10_starts d b 9 [some (.ref 0), some (.int l1)] [] SM im Q) : V mX10_starts d b 0 [some (.ref 0), some (.int l1)] [] SM im Q := by
  refine V.aload_n dX10_starts_0 rfl rfl ?_
  refine V.getI fX10_222 rfl (by rfl) dX10_starts_1 ?_
  refine V.bipush (v := 30) dX10_starts_4 (by decide) ?_
  refine V.icmp_ge (tgt := 29) dX10_starts_6 (by decide) (fun h => ?_) (fun h => ?_)
  · exact kt h
  · exact kf h
theorem bX10_starts_9 {d : Nat} {b : Nat × Nat}  {im : XI} {Q : Option Value → XS → XI → Prop} {l1 : Int32} {i1 : Nat} (g0 : (im 0 12) = nI i1) (g1 : i1 < 30) (k : V mX10_starts d b 29 [some (.ref 0), some (.int l1)] [] SM (xup (xup im 8 i1 l1) 0 12 (((xup im 8 i1 l1) 0 12) + (1 : Int32))) Q) : V mX10_starts d b 9 [some (.ref 0), some (.int l1)] [] SM im Q := by
  refine V.aload_n dX10_starts_9 rfl rfl ?_
  refine V.getR fX10_31 rfl (by rfl) (by rfl) dX10_starts_10 ?_
  refine V.aload_n dX10_starts_13 rfl rfl ?_
  refine V.getI fX10_222 rfl (by rfl) dX10_starts_14 ?_
  refine V.iload_n dX10_starts_17 rfl rfl ?_
  refine V.iast (i := i1) ⟨by rfl, by rfl⟩ g0 g1 dX10_starts_18 ?_
  refine V.aload_n dX10_starts_19 rfl rfl ?_
  refine V.dup dX10_starts_20 rfl ?_
  refine V.getI fX10_222 rfl (by rfl) dX10_starts_21 ?_
  refine V.iconst (v := 1) dX10_starts_24 (by decide) ?_
  refine V.iadd dX10_starts_25 ?_
  refine V.putI fX10_222 (fun h => by cases h) rfl (by rfl) dX10_starts_26 ?_
  exact k
theorem bX10_starts_29 {d : Nat} {b : Nat × Nat}  {im : XI} {Q : Option Value → XS → XI → Prop} {l1 : Int32}  (hq : Q none SM im) : V mX10_starts d b 29 [some (.ref 0), some (.int l1)] [] SM im Q := by
  exact V.vret rfl dX10_starts_29 hq
theorem bX10_above_0 {d : Nat} {b : Nat × Nat} {S : XS} {im : XI} {Q : Option Value → XS → XI → Prop} {l0 : Int32}  (kt : ¬ l0 = (4 : Int32) → V mX10_above d b 9 [some (.int l0)] [] S im Q) (kf : l0 = (4 : Int32) → V mX10_above d b 5 [some (.int l0)] [] S im Q) : V mX10_above d b 0 [some (.int l0)] [] S im Q := by
  refine V.iload_n dX10_above_0 rfl rfl ?_
  refine V.iconst (v := 4) dX10_above_1 (by decide) ?_
  refine V.icmp_ne (tgt := 9) dX10_above_2 (by decide) (fun h => ?_) (fun h => ?_)
  · exact kt h
  · exact kf h
theorem bX10_above_5 {d : Nat} {b : Nat × Nat} {S : XS} {im : XI} {Q : Option Value → XS → XI → Prop} {l0 : Int32}  (k : V mX10_above d b 19 [some (.int l0)] [.int (1 : Int32)] S im Q) : V mX10_above d b 5 [some (.int l0)] [] S im Q := by
  refine V.iconst (v := 1) dX10_above_5 (by decide) ?_
  refine V.goto (tgt := 19) dX10_above_6 (by decide) ?_
  exact k
theorem bX10_above_9 {d : Nat} {b : Nat × Nat} {S : XS} {im : XI} {Q : Option Value → XS → XI → Prop} {l0 : Int32}  (kt : ¬ l0 = (5 : Int32) → V mX10_above d b 18 [some (.int l0)] [] S im Q) (kf : l0 = (5 : Int32) → V mX10_above d b 14 [some (.int l0)] [] S im Q) : V mX10_above d b 9 [some (.int l0)] [] S im Q := by
  refine V.iload_n dX10_above_9 rfl rfl ?_
  refine V.iconst (v := 5) dX10_above_10 (by decide) ?_
  refine V.icmp_ne (tgt := 18) dX10_above_11 (by decide) (fun h => ?_) (fun h => ?_)
  · exact kt h
  · exact kf h
theorem bX10_above_14 {d : Nat} {b : Nat × Nat} {S : XS} {im : XI} {Q : Option Value → XS → XI → Prop} {l0 : Int32}  (k : V mX10_above d b 19 [some (.int l0)] [.int (2 : Int32)] S im Q) : V mX10_above d b 14 [some (.int l0)] [] S im Q := by
  refine V.iconst (v := 2) dX10_above_14 (by decide) ?_
  refine V.goto (tgt := 19) dX10_above_15 (by decide) ?_
  exact k
theorem bX10_above_18 {d : Nat} {b : Nat × Nat} {S : XS} {im : XI} {Q : Option Value → XS → XI → Prop} {l0 : Int32}  (k : V mX10_above d b 19 [some (.int l0)] [.int (0 : Int32)] S im Q) : V mX10_above d b 18 [some (.int l0)] [] S im Q := by
  refine V.iconst (v := 0) dX10_above_18 (by decide) ?_
  exact k
theorem bX10_above_19 {d : Nat} {b : Nat × Nat} {S : XS} {im : XI} {Q : Option Value → XS → XI → Prop} {l0 : Int32} {s0 : Int32}  (hq : Q (some (.int s0)) S im) : V mX10_above d b 19 [some (.int l0)] [.int s0] S im Q := by
  exact V.iret rfl dX10_above_19 hq
theorem bX10_kindNow_0 {d : Nat} {b : Nat × Nat}  {im : XI} {Q : Option Value → XS → XI → Prop} {P : Int32 → XI → Prop}  (hs : SpI mX10_its d [.ref 0, .int (im 0 14), .int (0 : Int32)] SM im P) (k : ∀ x2 im2, P x2 im2 → V mX10_kindNow (d + 1) b 9 [some (.ref 0)] [.int x2] SM im2 Q) : V mX10_kindNow (d + 1) b 0 [some (.ref 0)] [] SM im Q := by
  refine V.aload_n dX10_kindNow_0 rfl rfl ?_
  refine V.aload_n dX10_kindNow_1 rfl rfl ?_
  refine V.getI fX10_225 rfl (by rfl) dX10_kindNow_2 ?_
  refine V.iconst (v := 0) dX10_kindNow_5 (by decide) ?_
  refine V.cVI rfl vX10_its lkX10_111 wX10_its (ci := 10) rfl (by rfl) (As := [.int (im 0 14), .int (0 : Int32)]) rfl rfl rfl dX10_kindNow_6 hs (fun x2 im2 h2 => ?_)
  exact k x2 im2 h2
theorem bX10_kindNow_9 {d : Nat} {b : Nat × Nat}  {im : XI} {Q : Option Value → XS → XI → Prop} {s0 : Int32}  (hq : Q (some (.int s0)) SM im) : V mX10_kindNow d b 9 [some (.ref 0)] [.int s0] SM im Q := by
  exact V.iret rfl dX10_kindNow_9 hq
theorem bX10_mNow_0 {d : Nat} {b : Nat × Nat}  {im : XI} {Q : Option Value → XS → XI → Prop} {P : Int32 → XI → Prop}  (hs : SpI mX10_its d [.ref 0, .int (im 0 14), .int (1 : Int32)] SM im P) (k : ∀ x2 im2, P x2 im2 → V mX10_mNow (d + 1) b 9 [some (.ref 0)] [.int x2] SM im2 Q) : V mX10_mNow (d + 1) b 0 [some (.ref 0)] [] SM im Q := by
  refine V.aload_n dX10_mNow_0 rfl rfl ?_
  refine V.aload_n dX10_mNow_1 rfl rfl ?_
  refine V.getI fX10_225 rfl (by rfl) dX10_mNow_2 ?_
  refine V.iconst (v := 1) dX10_mNow_5 (by decide) ?_
  refine V.cVI rfl vX10_its lkX10_111 wX10_its (ci := 10) rfl (by rfl) (As := [.int (im 0 14), .int (1 : Int32)]) rfl rfl rfl dX10_mNow_6 hs (fun x2 im2 h2 => ?_)
  exact k x2 im2 h2
theorem bX10_mNow_9 {d : Nat} {b : Nat × Nat}  {im : XI} {Q : Option Value → XS → XI → Prop} {s0 : Int32}  (hq : Q (some (.int s0)) SM im) : V mX10_mNow d b 9 [some (.ref 0)] [.int s0] SM im Q := by
  exact V.iret rfl dX10_mNow_9 hq
theorem bX10_blinksAs_0 {d : Nat} {b : Nat × Nat}  {im : XI} {Q : Option Value → XS → XI → Prop} {l1 : Int32} {l2 : Int32}  (k0 : l1 = 0 → V mX10_blinksAs d b 44 [some (.ref 0), some (.int l1), some (.int l2)] [] SM im Q) (k1 : l1 = 1 → V mX10_blinksAs d b 57 [some (.ref 0), some (.int l1), some (.int l2)] [] SM im Q) (k2 : l1 = 4 → V mX10_blinksAs d b 75 [some (.ref 0), some (.int l1), some (.int l2)] [] SM im Q) (k3 : l1 = 6 → V mX10_blinksAs d b 93 [some (.ref 0), some (.int l1), some (.int l2)] [] SM im Q) (kd : ¬ l1 = 0 → ¬ l1 = 1 → ¬ l1 = 4 → ¬ l1 = 6 → V mX10_blinksAs d b 102 [some (.ref 0), some (.int l1), some (.int l2)] [] SM im Q) : V mX10_blinksAs d b 0 [some (.ref 0), some (.int l1), some (.int l2)] [] SM im Q := by
  refine V.iload_n dX10_blinksAs_0 rfl rfl ?_
  by_cases c0 : l1 = 0
  · exact V.tableIn (tgt := 44) (off := 43) dX10_blinksAs_1 (by rw [c0]; decide) (by rw [c0]; decide) (by rw [c0] <;> rfl) (by decide) (k0 c0)
  · skip
    by_cases c1 : l1 = 1
    · exact V.tableIn (tgt := 57) (off := 56) dX10_blinksAs_1 (by rw [c1]; decide) (by rw [c1]; decide) (by rw [c1] <;> rfl) (by decide) (k1 c1)
    · skip
      by_cases c2 : l1 = 2
      · exact V.tableIn (tgt := 102) (off := 101) dX10_blinksAs_1 (by rw [c2]; decide) (by rw [c2]; decide) (by rw [c2] <;> rfl) (by decide) (kd c0 c1 (by rw [c2]; decide) (by rw [c2]; decide))
      · skip
        by_cases c3 : l1 = 3
        · exact V.tableIn (tgt := 102) (off := 101) dX10_blinksAs_1 (by rw [c3]; decide) (by rw [c3]; decide) (by rw [c3] <;> rfl) (by decide) (kd c0 c1 (by rw [c3]; decide) (by rw [c3]; decide))
        · skip
          by_cases c4 : l1 = 4
          · exact V.tableIn (tgt := 75) (off := 74) dX10_blinksAs_1 (by rw [c4]; decide) (by rw [c4]; decide) (by rw [c4] <;> rfl) (by decide) (k2 c4)
          · skip
            by_cases c5 : l1 = 5
            · exact V.tableIn (tgt := 102) (off := 101) dX10_blinksAs_1 (by rw [c5]; decide) (by rw [c5]; decide) (by rw [c5] <;> rfl) (by decide) (kd c0 c1 c4 (by rw [c5]; decide))
            · skip
              by_cases c6 : l1 = 6
              · exact V.tableIn (tgt := 93) (off := 92) dX10_blinksAs_1 (by rw [c6]; decide) (by rw [c6]; decide) (by rw [c6] <;> rfl) (by decide) (k3 c6)
              · skip
                exact V.tableOut (tgt := 102) dX10_blinksAs_1 (by have qc0 := lv_neT c0 (a := 0) rfl; have qc1 := lv_neT c1 (a := 1) rfl; have qc2 := lv_neT c2 (a := 2) rfl; have qc3 := lv_neT c3 (a := 3) rfl; have qc4 := lv_neT c4 (a := 4) rfl; have qc5 := lv_neT c5 (a := 5) rfl; have qc6 := lv_neT c6 (a := 6) rfl; omega) (by decide) (kd c0 c1 c4 c6)
theorem bX10_blinksAs_44 {d : Nat} {b : Nat × Nat}  {im : XI} {Q : Option Value → XS → XI → Prop} {l1 : Int32} {l2 : Int32} {P : XI → Prop}  (hs : SpV mX10_starts d [.ref 0, .int (10 : Int32)] SM im P) (k : ∀ im2, P im2 → V mX10_blinksAs (d + 1) b 50 [some (.ref 0), some (.int l1), some (.int l2)] [] SM im2 Q) : V mX10_blinksAs (d + 1) b 44 [some (.ref 0), some (.int l1), some (.int l2)] [] SM im Q := by
  refine V.aload_n dX10_blinksAs_44 rfl rfl ?_
  refine V.bipush (v := 10) dX10_blinksAs_45 (by decide) ?_
  refine V.cVV rfl vX10_starts lkX10_228 wX10_starts (ci := 10) rfl (by rfl) (As := [.int (10 : Int32)]) rfl rfl rfl dX10_blinksAs_47 hs (fun im2 h2 => ?_)
  exact k im2 h2
theorem bX10_blinksAs_50 {d : Nat} {b : Nat × Nat}  {im : XI} {Q : Option Value → XS → XI → Prop} {l1 : Int32} {l2 : Int32}  (hq : Q (some (.int (l2 + (im 0 14)))) SM im) : V mX10_blinksAs d b 50 [some (.ref 0), some (.int l1), some (.int l2)] [] SM im Q := by
  refine V.iload_n dX10_blinksAs_50 rfl rfl ?_
  refine V.aload_n dX10_blinksAs_51 rfl rfl ?_
  refine V.getI fX10_225 rfl (by rfl) dX10_blinksAs_52 ?_
  refine V.iadd dX10_blinksAs_55 ?_
  exact V.iret rfl dX10_blinksAs_56 hq
theorem bX10_blinksAs_57 {d : Nat} {b : Nat × Nat}  {im : XI} {Q : Option Value → XS → XI → Prop} {l1 : Int32} {l2 : Int32} {P : XI → Prop}  (hs : SpV mX10_starts d [.ref 0, .int (20 : Int32)] SM im P) (k : ∀ im2, P im2 → V mX10_blinksAs (d + 1) b 63 [some (.ref 0), some (.int l1), some (.int l2)] [] SM im2 Q) : V mX10_blinksAs (d + 1) b 57 [some (.ref 0), some (.int l1), some (.int l2)] [] SM im Q := by
  refine V.aload_n dX10_blinksAs_57 rfl rfl ?_
  refine V.bipush (v := 20) dX10_blinksAs_58 (by decide) ?_
  refine V.cVV rfl vX10_starts lkX10_228 wX10_starts (ci := 10) rfl (by rfl) (As := [.int (20 : Int32)]) rfl rfl rfl dX10_blinksAs_60 hs (fun im2 h2 => ?_)
  exact k im2 h2
theorem bX10_blinksAs_63 {d : Nat} {b : Nat × Nat}  {im : XI} {Q : Option Value → XS → XI → Prop} {l1 : Int32} {l2 : Int32} {P : Int32 → XI → Prop}  (hs : SpI mX10_above d [.int (1 : Int32)] SM im P) (k : ∀ x2 im2, P x2 im2 → V mX10_blinksAs (d + 1) b 68 [some (.ref 0), some (.int l1), some (.int l2)] [.int x2, .ref 0] SM im2 Q) : V mX10_blinksAs (d + 1) b 63 [some (.ref 0), some (.int l1), some (.int l2)] [] SM im Q := by
  refine V.aload_n dX10_blinksAs_63 rfl rfl ?_
  refine V.iconst (v := 1) dX10_blinksAs_64 (by decide) ?_
  refine V.cSI rfl vX10_above lkX10_172 sX10_above (As := [.int (1 : Int32)]) rfl rfl rfl dX10_blinksAs_65 hs (fun x2 im2 h2 => ?_)
  exact k x2 im2 h2
theorem bX10_blinksAs_68 {d : Nat} {b : Nat × Nat}  {im : XI} {Q : Option Value → XS → XI → Prop} {l1 : Int32} {l2 : Int32} {s0 : Nat} {s1 : Int32} {P : Int32 → XI → Prop} (g0 : SM.1[s0]? = some (.inl 10)) (hs : SpI mX10_blinksAs d [.ref s0, .int s1, .int l2] SM im P) (k : ∀ x2 im2, P x2 im2 → V mX10_blinksAs (d + 1) b 72 [some (.ref 0), some (.int l1), some (.int l2)] [.int x2] SM im2 Q) : V mX10_blinksAs (d + 1) b 68 [some (.ref 0), some (.int l1), some (.int l2)] [.int s1, .ref s0] SM im Q := by
  refine V.iload_n dX10_blinksAs_68 rfl rfl ?_
  refine V.cVI rfl vX10_blinksAs lkX10_232 wX10_blinksAs (ci := 10) rfl g0 (As := [.int s1, .int l2]) rfl rfl rfl dX10_blinksAs_69 hs (fun x2 im2 h2 => ?_)
  exact k x2 im2 h2
theorem bX10_blinksAs_72 {d : Nat} {b : Nat × Nat}  {im : XI} {Q : Option Value → XS → XI → Prop} {l1 : Int32} {l2 : Int32} {s0 : Int32}  (hq : Q (some (.int (s0 - (4 : Int32)))) SM im) : V mX10_blinksAs d b 72 [some (.ref 0), some (.int l1), some (.int l2)] [.int s0] SM im Q := by
  refine V.iconst (v := 4) dX10_blinksAs_72 (by decide) ?_
  refine V.isub dX10_blinksAs_73 ?_
  exact V.iret rfl dX10_blinksAs_74 hq
theorem bX10_blinksAs_75 {d : Nat} {b : Nat × Nat}  {im : XI} {Q : Option Value → XS → XI → Prop} {l1 : Int32} {l2 : Int32} {P : XI → Prop}  (hs : SpV mX10_starts d [.ref 0, .int (50 : Int32)] SM im P) (k : ∀ im2, P im2 → V mX10_blinksAs (d + 1) b 81 [some (.ref 0), some (.int l1), some (.int l2)] [] SM im2 Q) : V mX10_blinksAs (d + 1) b 75 [some (.ref 0), some (.int l1), some (.int l2)] [] SM im Q := by
  refine V.aload_n dX10_blinksAs_75 rfl rfl ?_
  refine V.bipush (v := 50) dX10_blinksAs_76 (by decide) ?_
  refine V.cVV rfl vX10_starts lkX10_228 wX10_starts (ci := 10) rfl (by rfl) (As := [.int (50 : Int32)]) rfl rfl rfl dX10_blinksAs_78 hs (fun im2 h2 => ?_)
  exact k im2 h2
theorem bX10_blinksAs_81 {d : Nat} {b : Nat × Nat}  {im : XI} {Q : Option Value → XS → XI → Prop} {l1 : Int32} {l2 : Int32} {P : Int32 → XI → Prop}  (hs : SpI mX10_above d [.int (4 : Int32)] SM im P) (k : ∀ x2 im2, P x2 im2 → V mX10_blinksAs (d + 1) b 86 [some (.ref 0), some (.int l1), some (.int l2)] [.int x2, .ref 0] SM im2 Q) : V mX10_blinksAs (d + 1) b 81 [some (.ref 0), some (.int l1), some (.int l2)] [] SM im Q := by
  refine V.aload_n dX10_blinksAs_81 rfl rfl ?_
  refine V.iconst (v := 4) dX10_blinksAs_82 (by decide) ?_
  refine V.cSI rfl vX10_above lkX10_172 sX10_above (As := [.int (4 : Int32)]) rfl rfl rfl dX10_blinksAs_83 hs (fun x2 im2 h2 => ?_)
  exact k x2 im2 h2
theorem bX10_blinksAs_86 {d : Nat} {b : Nat × Nat}  {im : XI} {Q : Option Value → XS → XI → Prop} {l1 : Int32} {l2 : Int32} {s0 : Nat} {s1 : Int32} {P : Int32 → XI → Prop} (g0 : SM.1[s0]? = some (.inl 10)) (hs : SpI mX10_blinksAs d [.ref s0, .int s1, .int l2] SM im P) (k : ∀ x2 im2, P x2 im2 → V mX10_blinksAs (d + 1) b 90 [some (.ref 0), some (.int l1), some (.int l2)] [.int x2] SM im2 Q) : V mX10_blinksAs (d + 1) b 86 [some (.ref 0), some (.int l1), some (.int l2)] [.int s1, .ref s0] SM im Q := by
  refine V.iload_n dX10_blinksAs_86 rfl rfl ?_
  refine V.cVI rfl vX10_blinksAs lkX10_232 wX10_blinksAs (ci := 10) rfl g0 (As := [.int s1, .int l2]) rfl rfl rfl dX10_blinksAs_87 hs (fun x2 im2 h2 => ?_)
  exact k x2 im2 h2
theorem bX10_blinksAs_90 {d : Nat} {b : Nat × Nat}  {im : XI} {Q : Option Value → XS → XI → Prop} {l1 : Int32} {l2 : Int32} {s0 : Int32}  (hq : Q (some (.int (s0 * (3 : Int32)))) SM im) : V mX10_blinksAs d b 90 [some (.ref 0), some (.int l1), some (.int l2)] [.int s0] SM im Q := by
  refine V.iconst (v := 3) dX10_blinksAs_90 (by decide) ?_
  refine V.imul dX10_blinksAs_91 ?_
  exact V.iret rfl dX10_blinksAs_92 hq
theorem bX10_blinksAs_93 {d : Nat} {b : Nat × Nat}  {im : XI} {Q : Option Value → XS → XI → Prop} {l1 : Int32} {l2 : Int32} {P : XI → Prop}  (hs : SpV mX10_starts d [.ref 0, .int (70 : Int32)] SM im P) (k : ∀ im2, P im2 → V mX10_blinksAs (d + 1) b 99 [some (.ref 0), some (.int l1), some (.int l2)] [] SM im2 Q) : V mX10_blinksAs (d + 1) b 93 [some (.ref 0), some (.int l1), some (.int l2)] [] SM im Q := by
  refine V.aload_n dX10_blinksAs_93 rfl rfl ?_
  refine V.bipush (v := 70) dX10_blinksAs_94 (by decide) ?_
  refine V.cVV rfl vX10_starts lkX10_228 wX10_starts (ci := 10) rfl (by rfl) (As := [.int (70 : Int32)]) rfl rfl rfl dX10_blinksAs_96 hs (fun im2 h2 => ?_)
  exact k im2 h2
theorem bX10_blinksAs_99 {d : Nat} {b : Nat × Nat}  {im : XI} {Q : Option Value → XS → XI → Prop} {l1 : Int32} {l2 : Int32}  (hq : Q (some (.int (9 : Int32))) SM im) : V mX10_blinksAs d b 99 [some (.ref 0), some (.int l1), some (.int l2)] [] SM im Q := by
  refine V.bipush (v := 9) dX10_blinksAs_99 (by decide) ?_
  exact V.iret rfl dX10_blinksAs_101 hq
theorem bX10_blinksAs_102 {d : Nat} {b : Nat × Nat}  {im : XI} {Q : Option Value → XS → XI → Prop} {l1 : Int32} {l2 : Int32} {P : Int32 → XI → Prop}  (hs : SpI mX10_above d [.int l1] SM im P) (k : ∀ x2 im2, P x2 im2 → V mX10_blinksAs (d + 1) b 107 [some (.ref 0), some (.int l1), some (.int l2)] [.int x2, .ref 0] SM im2 Q) : V mX10_blinksAs (d + 1) b 102 [some (.ref 0), some (.int l1), some (.int l2)] [] SM im Q := by
  refine V.aload_n dX10_blinksAs_102 rfl rfl ?_
  refine V.iload_n dX10_blinksAs_103 rfl rfl ?_
  refine V.cSI rfl vX10_above lkX10_172 sX10_above (As := [.int l1]) rfl rfl rfl dX10_blinksAs_104 hs (fun x2 im2 h2 => ?_)
  exact k x2 im2 h2
theorem bX10_blinksAs_107 {d : Nat} {b : Nat × Nat}  {im : XI} {Q : Option Value → XS → XI → Prop} {l1 : Int32} {l2 : Int32} {s0 : Nat} {s1 : Int32} {P : Int32 → XI → Prop} (g0 : SM.1[s0]? = some (.inl 10)) (hs : SpI mX10_blinksAs d [.ref s0, .int s1, .int l2] SM im P) (k : ∀ x2 im2, P x2 im2 → V mX10_blinksAs (d + 1) b 111 [some (.ref 0), some (.int l1), some (.int l2)] [.int x2] SM im2 Q) : V mX10_blinksAs (d + 1) b 107 [some (.ref 0), some (.int l1), some (.int l2)] [.int s1, .ref s0] SM im Q := by
  refine V.iload_n dX10_blinksAs_107 rfl rfl ?_
  refine V.cVI rfl vX10_blinksAs lkX10_232 wX10_blinksAs (ci := 10) rfl g0 (As := [.int s1, .int l2]) rfl rfl rfl dX10_blinksAs_108 hs (fun x2 im2 h2 => ?_)
  exact k x2 im2 h2
theorem bX10_blinksAs_111 {d : Nat} {b : Nat × Nat}  {im : XI} {Q : Option Value → XS → XI → Prop} {l1 : Int32} {l2 : Int32} {s0 : Int32}  (hq : Q (some (.int s0)) SM im) : V mX10_blinksAs d b 111 [some (.ref 0), some (.int l1), some (.int l2)] [.int s0] SM im Q := by
  exact V.iret rfl dX10_blinksAs_111 hq
theorem bX10_movesAs_0 {d : Nat} {b : Nat × Nat}  {im : XI} {Q : Option Value → XS → XI → Prop} {l1 : Int32} {l2 : Int32}  (k0 : l1 = 0 → V mX10_movesAs d b 44 [some (.ref 0), some (.int l1), some (.int l2)] [] SM im Q) (k1 : l1 = 2 → V mX10_movesAs d b 62 [some (.ref 0), some (.int l1), some (.int l2)] [] SM im Q) (k2 : l1 = 5 → V mX10_movesAs d b 80 [some (.ref 0), some (.int l1), some (.int l2)] [] SM im Q) (k3 : l1 = 6 → V mX10_movesAs d b 98 [some (.ref 0), some (.int l1), some (.int l2)] [] SM im Q) (kd : ¬ l1 = 0 → ¬ l1 = 2 → ¬ l1 = 5 → ¬ l1 = 6 → V mX10_movesAs d b 120 [some (.ref 0), some (.int l1), some (.int l2)] [] SM im Q) : V mX10_movesAs d b 0 [some (.ref 0), some (.int l1), some (.int l2)] [] SM im Q := by
  refine V.iload_n dX10_movesAs_0 rfl rfl ?_
  by_cases c0 : l1 = 0
  · exact V.tableIn (tgt := 44) (off := 43) dX10_movesAs_1 (by rw [c0]; decide) (by rw [c0]; decide) (by rw [c0] <;> rfl) (by decide) (k0 c0)
  · skip
    by_cases c1 : l1 = 1
    · exact V.tableIn (tgt := 120) (off := 119) dX10_movesAs_1 (by rw [c1]; decide) (by rw [c1]; decide) (by rw [c1] <;> rfl) (by decide) (kd c0 (by rw [c1]; decide) (by rw [c1]; decide) (by rw [c1]; decide))
    · skip
      by_cases c2 : l1 = 2
      · exact V.tableIn (tgt := 62) (off := 61) dX10_movesAs_1 (by rw [c2]; decide) (by rw [c2]; decide) (by rw [c2] <;> rfl) (by decide) (k1 c2)
      · skip
        by_cases c3 : l1 = 3
        · exact V.tableIn (tgt := 120) (off := 119) dX10_movesAs_1 (by rw [c3]; decide) (by rw [c3]; decide) (by rw [c3] <;> rfl) (by decide) (kd c0 c2 (by rw [c3]; decide) (by rw [c3]; decide))
        · skip
          by_cases c4 : l1 = 4
          · exact V.tableIn (tgt := 120) (off := 119) dX10_movesAs_1 (by rw [c4]; decide) (by rw [c4]; decide) (by rw [c4] <;> rfl) (by decide) (kd c0 c2 (by rw [c4]; decide) (by rw [c4]; decide))
          · skip
            by_cases c5 : l1 = 5
            · exact V.tableIn (tgt := 80) (off := 79) dX10_movesAs_1 (by rw [c5]; decide) (by rw [c5]; decide) (by rw [c5] <;> rfl) (by decide) (k2 c5)
            · skip
              by_cases c6 : l1 = 6
              · exact V.tableIn (tgt := 98) (off := 97) dX10_movesAs_1 (by rw [c6]; decide) (by rw [c6]; decide) (by rw [c6] <;> rfl) (by decide) (k3 c6)
              · skip
                exact V.tableOut (tgt := 120) dX10_movesAs_1 (by have qc0 := lv_neT c0 (a := 0) rfl; have qc1 := lv_neT c1 (a := 1) rfl; have qc2 := lv_neT c2 (a := 2) rfl; have qc3 := lv_neT c3 (a := 3) rfl; have qc4 := lv_neT c4 (a := 4) rfl; have qc5 := lv_neT c5 (a := 5) rfl; have qc6 := lv_neT c6 (a := 6) rfl; omega) (by decide) (kd c0 c2 c5 c6)
theorem bX10_movesAs_44 {d : Nat} {b : Nat × Nat}  {im : XI} {Q : Option Value → XS → XI → Prop} {l1 : Int32} {l2 : Int32} {P : XI → Prop}  (hs : SpV mX10_starts d [.ref 0, .int (11 : Int32)] SM im P) (k : ∀ im2, P im2 → V mX10_movesAs (d + 1) b 50 [some (.ref 0), some (.int l1), some (.int l2)] [] SM im2 Q) : V mX10_movesAs (d + 1) b 44 [some (.ref 0), some (.int l1), some (.int l2)] [] SM im Q := by
  refine V.aload_n dX10_movesAs_44 rfl rfl ?_
  refine V.bipush (v := 11) dX10_movesAs_45 (by decide) ?_
  refine V.cVV rfl vX10_starts lkX10_228 wX10_starts (ci := 10) rfl (by rfl) (As := [.int (11 : Int32)]) rfl rfl rfl dX10_movesAs_47 hs (fun im2 h2 => ?_)
  exact k im2 h2
theorem bX10_movesAs_50 {d : Nat} {b : Nat × Nat}  {im : XI} {Q : Option Value → XS → XI → Prop} {l1 : Int32} {l2 : Int32} {P : Int32 → XI → Prop}  (hs : SpI mX10_kindNow d [.ref 0] SM im P) (k : ∀ x2 im2, P x2 im2 → V mX10_movesAs (d + 1) b 55 [some (.ref 0), some (.int l1), some (.int l2)] [.int x2, .ref 0] SM im2 Q) : V mX10_movesAs (d + 1) b 50 [some (.ref 0), some (.int l1), some (.int l2)] [] SM im Q := by
  refine V.aload_n dX10_movesAs_50 rfl rfl ?_
  refine V.aload_n dX10_movesAs_51 rfl rfl ?_
  refine V.cVI rfl vX10_kindNow lkX10_235 wX10_kindNow (ci := 10) rfl (by rfl) (As := []) rfl rfl rfl dX10_movesAs_52 hs (fun x2 im2 h2 => ?_)
  exact k x2 im2 h2
theorem bX10_movesAs_55 {d : Nat} {b : Nat × Nat}  {im : XI} {Q : Option Value → XS → XI → Prop} {l1 : Int32} {l2 : Int32} {s0 : Nat} {s1 : Int32} {P : Int32 → XI → Prop} (g0 : SM.1[s0]? = some (.inl 10)) (hs : SpI mX10_blinksAs d [.ref s0, .int s1, .int l2] SM im P) (k : ∀ x2 im2, P x2 im2 → V mX10_movesAs (d + 1) b 59 [some (.ref 0), some (.int l1), some (.int l2)] [.int x2] SM im2 Q) : V mX10_movesAs (d + 1) b 55 [some (.ref 0), some (.int l1), some (.int l2)] [.int s1, .ref s0] SM im Q := by
  refine V.iload_n dX10_movesAs_55 rfl rfl ?_
  refine V.cVI rfl vX10_blinksAs lkX10_232 wX10_blinksAs (ci := 10) rfl g0 (As := [.int s1, .int l2]) rfl rfl rfl dX10_movesAs_56 hs (fun x2 im2 h2 => ?_)
  exact k x2 im2 h2
theorem bX10_movesAs_59 {d : Nat} {b : Nat × Nat}  {im : XI} {Q : Option Value → XS → XI → Prop} {l1 : Int32} {l2 : Int32} {s0 : Int32}  (hq : Q (some (.int (s0 * (2 : Int32)))) SM im) : V mX10_movesAs d b 59 [some (.ref 0), some (.int l1), some (.int l2)] [.int s0] SM im Q := by
  refine V.iconst (v := 2) dX10_movesAs_59 (by decide) ?_
  refine V.imul dX10_movesAs_60 ?_
  exact V.iret rfl dX10_movesAs_61 hq
theorem bX10_movesAs_62 {d : Nat} {b : Nat × Nat}  {im : XI} {Q : Option Value → XS → XI → Prop} {l1 : Int32} {l2 : Int32} {P : XI → Prop}  (hs : SpV mX10_starts d [.ref 0, .int (30 : Int32)] SM im P) (k : ∀ im2, P im2 → V mX10_movesAs (d + 1) b 68 [some (.ref 0), some (.int l1), some (.int l2)] [] SM im2 Q) : V mX10_movesAs (d + 1) b 62 [some (.ref 0), some (.int l1), some (.int l2)] [] SM im Q := by
  refine V.aload_n dX10_movesAs_62 rfl rfl ?_
  refine V.bipush (v := 30) dX10_movesAs_63 (by decide) ?_
  refine V.cVV rfl vX10_starts lkX10_228 wX10_starts (ci := 10) rfl (by rfl) (As := [.int (30 : Int32)]) rfl rfl rfl dX10_movesAs_65 hs (fun im2 h2 => ?_)
  exact k im2 h2
theorem bX10_movesAs_68 {d : Nat} {b : Nat × Nat}  {im : XI} {Q : Option Value → XS → XI → Prop} {l1 : Int32} {l2 : Int32} {P : Int32 → XI → Prop}  (hs : SpI mX10_above d [.int (2 : Int32)] SM im P) (k : ∀ x2 im2, P x2 im2 → V mX10_movesAs (d + 1) b 74 [some (.ref 0), some (.int l1), some (.int l2)] [.int x2, .ref 0, .int (0 : Int32)] SM im2 Q) : V mX10_movesAs (d + 1) b 68 [some (.ref 0), some (.int l1), some (.int l2)] [] SM im Q := by
  refine V.iconst (v := 0) dX10_movesAs_68 (by decide) ?_
  refine V.aload_n dX10_movesAs_69 rfl rfl ?_
  refine V.iconst (v := 2) dX10_movesAs_70 (by decide) ?_
  refine V.cSI rfl vX10_above lkX10_172 sX10_above (As := [.int (2 : Int32)]) rfl rfl rfl dX10_movesAs_71 hs (fun x2 im2 h2 => ?_)
  exact k x2 im2 h2
theorem bX10_movesAs_74 {d : Nat} {b : Nat × Nat}  {im : XI} {Q : Option Value → XS → XI → Prop} {l1 : Int32} {l2 : Int32} {s0 : Int32} {s1 : Nat} {s2 : Int32} {P : Int32 → XI → Prop} (g0 : SM.1[s1]? = some (.inl 10)) (hs : SpI mX10_movesAs d [.ref s1, .int s2, .int l2] SM im P) (k : ∀ x2 im2, P x2 im2 → V mX10_movesAs (d + 1) b 78 [some (.ref 0), some (.int l1), some (.int l2)] [.int x2, .int s0] SM im2 Q) : V mX10_movesAs (d + 1) b 74 [some (.ref 0), some (.int l1), some (.int l2)] [.int s2, .ref s1, .int s0] SM im Q := by
  refine V.iload_n dX10_movesAs_74 rfl rfl ?_
  refine V.cVI rfl vX10_movesAs lkX10_238 wX10_movesAs (ci := 10) rfl g0 (As := [.int s2, .int l2]) rfl rfl rfl dX10_movesAs_75 hs (fun x2 im2 h2 => ?_)
  exact k x2 im2 h2
theorem bX10_movesAs_78 {d : Nat} {b : Nat × Nat}  {im : XI} {Q : Option Value → XS → XI → Prop} {l1 : Int32} {l2 : Int32} {s0 : Int32} {s1 : Int32}  (hq : Q (some (.int (s0 - s1))) SM im) : V mX10_movesAs d b 78 [some (.ref 0), some (.int l1), some (.int l2)] [.int s1, .int s0] SM im Q := by
  refine V.isub dX10_movesAs_78 ?_
  exact V.iret rfl dX10_movesAs_79 hq
theorem bX10_movesAs_80 {d : Nat} {b : Nat × Nat}  {im : XI} {Q : Option Value → XS → XI → Prop} {l1 : Int32} {l2 : Int32} {P : XI → Prop}  (hs : SpV mX10_starts d [.ref 0, .int (60 : Int32)] SM im P) (k : ∀ im2, P im2 → V mX10_movesAs (d + 1) b 86 [some (.ref 0), some (.int l1), some (.int l2)] [] SM im2 Q) : V mX10_movesAs (d + 1) b 80 [some (.ref 0), some (.int l1), some (.int l2)] [] SM im Q := by
  refine V.aload_n dX10_movesAs_80 rfl rfl ?_
  refine V.bipush (v := 60) dX10_movesAs_81 (by decide) ?_
  refine V.cVV rfl vX10_starts lkX10_228 wX10_starts (ci := 10) rfl (by rfl) (As := [.int (60 : Int32)]) rfl rfl rfl dX10_movesAs_83 hs (fun im2 h2 => ?_)
  exact k im2 h2
theorem bX10_movesAs_86 {d : Nat} {b : Nat × Nat}  {im : XI} {Q : Option Value → XS → XI → Prop} {l1 : Int32} {l2 : Int32} {P : Int32 → XI → Prop}  (hs : SpI mX10_above d [.int (5 : Int32)] SM im P) (k : ∀ x2 im2, P x2 im2 → V mX10_movesAs (d + 1) b 91 [some (.ref 0), some (.int l1), some (.int l2)] [.int x2, .ref 0] SM im2 Q) : V mX10_movesAs (d + 1) b 86 [some (.ref 0), some (.int l1), some (.int l2)] [] SM im Q := by
  refine V.aload_n dX10_movesAs_86 rfl rfl ?_
  refine V.iconst (v := 5) dX10_movesAs_87 (by decide) ?_
  refine V.cSI rfl vX10_above lkX10_172 sX10_above (As := [.int (5 : Int32)]) rfl rfl rfl dX10_movesAs_88 hs (fun x2 im2 h2 => ?_)
  exact k x2 im2 h2
theorem bX10_movesAs_91 {d : Nat} {b : Nat × Nat}  {im : XI} {Q : Option Value → XS → XI → Prop} {l1 : Int32} {l2 : Int32} {s0 : Nat} {s1 : Int32} {P : Int32 → XI → Prop} (g0 : SM.1[s0]? = some (.inl 10)) (hs : SpI mX10_movesAs d [.ref s0, .int s1, .int (l2 + (1 : Int32))] SM im P) (k : ∀ x2 im2, P x2 im2 → V mX10_movesAs (d + 1) b 97 [some (.ref 0), some (.int l1), some (.int l2)] [.int x2] SM im2 Q) : V mX10_movesAs (d + 1) b 91 [some (.ref 0), some (.int l1), some (.int l2)] [.int s1, .ref s0] SM im Q := by
  refine V.iload_n dX10_movesAs_91 rfl rfl ?_
  refine V.iconst (v := 1) dX10_movesAs_92 (by decide) ?_
  refine V.iadd dX10_movesAs_93 ?_
  refine V.cVI rfl vX10_movesAs lkX10_238 wX10_movesAs (ci := 10) rfl g0 (As := [.int s1, .int (l2 + (1 : Int32))]) rfl rfl rfl dX10_movesAs_94 hs (fun x2 im2 h2 => ?_)
  exact k x2 im2 h2
theorem bX10_movesAs_97 {d : Nat} {b : Nat × Nat}  {im : XI} {Q : Option Value → XS → XI → Prop} {l1 : Int32} {l2 : Int32} {s0 : Int32}  (hq : Q (some (.int s0)) SM im) : V mX10_movesAs d b 97 [some (.ref 0), some (.int l1), some (.int l2)] [.int s0] SM im Q := by
  exact V.iret rfl dX10_movesAs_97 hq
theorem bX10_movesAs_98 {d : Nat} {b : Nat × Nat}  {im : XI} {Q : Option Value → XS → XI → Prop} {l1 : Int32} {l2 : Int32} {P : XI → Prop}  (hs : SpV mX10_starts d [.ref 0, .int (71 : Int32)] SM im P) (k : ∀ im2, P im2 → V mX10_movesAs (d + 1) b 104 [some (.ref 0), some (.int l1), some (.int l2)] [] SM im2 Q) : V mX10_movesAs (d + 1) b 98 [some (.ref 0), some (.int l1), some (.int l2)] [] SM im Q := by
  refine V.aload_n dX10_movesAs_98 rfl rfl ?_
  refine V.bipush (v := 71) dX10_movesAs_99 (by decide) ?_
  refine V.cVV rfl vX10_starts lkX10_228 wX10_starts (ci := 10) rfl (by rfl) (As := [.int (71 : Int32)]) rfl rfl rfl dX10_movesAs_101 hs (fun im2 h2 => ?_)
  exact k im2 h2
theorem bX10_movesAs_104 {d : Nat} {b : Nat × Nat}  {im : XI} {Q : Option Value → XS → XI → Prop} {l1 : Int32} {l2 : Int32} {P : Int32 → XI → Prop}  (hs : SpI mX10_above d [.int (6 : Int32)] SM im P) (k : ∀ x2 im2, P x2 im2 → V mX10_movesAs (d + 1) b 110 [some (.ref 0), some (.int l1), some (.int l2)] [.int x2, .ref 0] SM im2 Q) : V mX10_movesAs (d + 1) b 104 [some (.ref 0), some (.int l1), some (.int l2)] [] SM im Q := by
  refine V.aload_n dX10_movesAs_104 rfl rfl ?_
  refine V.bipush (v := 6) dX10_movesAs_105 (by decide) ?_
  refine V.cSI rfl vX10_above lkX10_172 sX10_above (As := [.int (6 : Int32)]) rfl rfl rfl dX10_movesAs_107 hs (fun x2 im2 h2 => ?_)
  exact k x2 im2 h2
theorem bX10_movesAs_110 {d : Nat} {b : Nat × Nat}  {im : XI} {Q : Option Value → XS → XI → Prop} {l1 : Int32} {l2 : Int32} {s0 : Nat} {s1 : Int32} {P : Int32 → XI → Prop} (g0 : SM.1[s0]? = some (.inl 10)) (hs : SpI mX10_movesAs d [.ref s0, .int s1, .int l2] SM im P) (k : ∀ x2 im2, P x2 im2 → V mX10_movesAs (d + 1) b 114 [some (.ref 0), some (.int l1), some (.int l2)] [.int x2] SM im2 Q) : V mX10_movesAs (d + 1) b 110 [some (.ref 0), some (.int l1), some (.int l2)] [.int s1, .ref s0] SM im Q := by
  refine V.iload_n dX10_movesAs_110 rfl rfl ?_
  refine V.cVI rfl vX10_movesAs lkX10_238 wX10_movesAs (ci := 10) rfl g0 (As := [.int s1, .int l2]) rfl rfl rfl dX10_movesAs_111 hs (fun x2 im2 h2 => ?_)
  exact k x2 im2 h2
theorem bX10_movesAs_114 {d : Nat} {b : Nat × Nat}  {im : XI} {Q : Option Value → XS → XI → Prop} {l1 : Int32} {l2 : Int32} {s0 : Int32} {P : Int32 → XI → Prop}  (hs : SpI mX10_mNow d [.ref 0] SM im P) (k : ∀ x2 im2, P x2 im2 → V mX10_movesAs (d + 1) b 118 [some (.ref 0), some (.int l1), some (.int l2)] [.int x2, .int s0] SM im2 Q) : V mX10_movesAs (d + 1) b 114 [some (.ref 0), some (.int l1), some (.int l2)] [.int s0] SM im Q := by
  refine V.aload_n dX10_movesAs_114 rfl rfl ?_
  refine V.cVI rfl vX10_mNow lkX10_241 wX10_mNow (ci := 10) rfl (by rfl) (As := []) rfl rfl rfl dX10_movesAs_115 hs (fun x2 im2 h2 => ?_)
  exact k x2 im2 h2
theorem bX10_movesAs_118 {d : Nat} {b : Nat × Nat}  {im : XI} {Q : Option Value → XS → XI → Prop} {l1 : Int32} {l2 : Int32} {s0 : Int32} {s1 : Int32}  (hq : Q (some (.int (s0 + s1))) SM im) : V mX10_movesAs d b 118 [some (.ref 0), some (.int l1), some (.int l2)] [.int s1, .int s0] SM im Q := by
  refine V.iadd dX10_movesAs_118 ?_
  exact V.iret rfl dX10_movesAs_119 hq
theorem bX10_movesAs_120 {d : Nat} {b : Nat × Nat}  {im : XI} {Q : Option Value → XS → XI → Prop} {l1 : Int32} {l2 : Int32} {P : Int32 → XI → Prop}  (hs : SpI mX10_above d [.int l1] SM im P) (k : ∀ x2 im2, P x2 im2 → V mX10_movesAs (d + 1) b 125 [some (.ref 0), some (.int l1), some (.int l2)] [.int x2, .ref 0] SM im2 Q) : V mX10_movesAs (d + 1) b 120 [some (.ref 0), some (.int l1), some (.int l2)] [] SM im Q := by
  refine V.aload_n dX10_movesAs_120 rfl rfl ?_
  refine V.iload_n dX10_movesAs_121 rfl rfl ?_
  refine V.cSI rfl vX10_above lkX10_172 sX10_above (As := [.int l1]) rfl rfl rfl dX10_movesAs_122 hs (fun x2 im2 h2 => ?_)
  exact k x2 im2 h2
theorem bX10_movesAs_125 {d : Nat} {b : Nat × Nat}  {im : XI} {Q : Option Value → XS → XI → Prop} {l1 : Int32} {l2 : Int32} {s0 : Nat} {s1 : Int32} {P : Int32 → XI → Prop} (g0 : SM.1[s0]? = some (.inl 10)) (hs : SpI mX10_movesAs d [.ref s0, .int s1, .int l2] SM im P) (k : ∀ x2 im2, P x2 im2 → V mX10_movesAs (d + 1) b 129 [some (.ref 0), some (.int l1), some (.int l2)] [.int x2] SM im2 Q) : V mX10_movesAs (d + 1) b 125 [some (.ref 0), some (.int l1), some (.int l2)] [.int s1, .ref s0] SM im Q := by
  refine V.iload_n dX10_movesAs_125 rfl rfl ?_
  refine V.cVI rfl vX10_movesAs lkX10_238 wX10_movesAs (ci := 10) rfl g0 (As := [.int s1, .int l2]) rfl rfl rfl dX10_movesAs_126 hs (fun x2 im2 h2 => ?_)
  exact k x2 im2 h2
theorem bX10_movesAs_129 {d : Nat} {b : Nat × Nat}  {im : XI} {Q : Option Value → XS → XI → Prop} {l1 : Int32} {l2 : Int32} {s0 : Int32}  (hq : Q (some (.int s0)) SM im) : V mX10_movesAs d b 129 [some (.ref 0), some (.int l1), some (.int l2)] [.int s0] SM im Q := by
  exact V.iret rfl dX10_movesAs_129 hq
theorem bX10_looksAs_0 {d : Nat} {b : Nat × Nat}  {im : XI} {Q : Option Value → XS → XI → Prop} {l1 : Int32} {l2 : Int32}  (k0 : l1 = 0 → V mX10_looksAs d b 36 [some (.ref 0), some (.int l1), some (.int l2)] [] SM im Q) (k1 : l1 = 3 → V mX10_looksAs d b 57 [some (.ref 0), some (.int l1), some (.int l2)] [] SM im Q) (k2 : l1 = 4 → V mX10_looksAs d b 75 [some (.ref 0), some (.int l1), some (.int l2)] [] SM im Q) (kd : ¬ l1 = 0 → ¬ l1 = 3 → ¬ l1 = 4 → V mX10_looksAs d b 96 [some (.ref 0), some (.int l1), some (.int l2)] [] SM im Q) : V mX10_looksAs d b 0 [some (.ref 0), some (.int l1), some (.int l2)] [] SM im Q := by
  refine V.iload_n dX10_looksAs_0 rfl rfl ?_
  by_cases c0 : l1 = 0
  · exact V.tableIn (tgt := 36) (off := 35) dX10_looksAs_1 (by rw [c0]; decide) (by rw [c0]; decide) (by rw [c0] <;> rfl) (by decide) (k0 c0)
  · skip
    by_cases c1 : l1 = 1
    · exact V.tableIn (tgt := 96) (off := 95) dX10_looksAs_1 (by rw [c1]; decide) (by rw [c1]; decide) (by rw [c1] <;> rfl) (by decide) (kd c0 (by rw [c1]; decide) (by rw [c1]; decide))
    · skip
      by_cases c2 : l1 = 2
      · exact V.tableIn (tgt := 96) (off := 95) dX10_looksAs_1 (by rw [c2]; decide) (by rw [c2]; decide) (by rw [c2] <;> rfl) (by decide) (kd c0 (by rw [c2]; decide) (by rw [c2]; decide))
      · skip
        by_cases c3 : l1 = 3
        · exact V.tableIn (tgt := 57) (off := 56) dX10_looksAs_1 (by rw [c3]; decide) (by rw [c3]; decide) (by rw [c3] <;> rfl) (by decide) (k1 c3)
        · skip
          by_cases c4 : l1 = 4
          · exact V.tableIn (tgt := 75) (off := 74) dX10_looksAs_1 (by rw [c4]; decide) (by rw [c4]; decide) (by rw [c4] <;> rfl) (by decide) (k2 c4)
          · skip
            exact V.tableOut (tgt := 96) dX10_looksAs_1 (by have qc0 := lv_neT c0 (a := 0) rfl; have qc1 := lv_neT c1 (a := 1) rfl; have qc2 := lv_neT c2 (a := 2) rfl; have qc3 := lv_neT c3 (a := 3) rfl; have qc4 := lv_neT c4 (a := 4) rfl; omega) (by decide) (kd c0 c3 c4)
theorem bX10_looksAs_36 {d : Nat} {b : Nat × Nat}  {im : XI} {Q : Option Value → XS → XI → Prop} {l1 : Int32} {l2 : Int32} {P : XI → Prop}  (hs : SpV mX10_starts d [.ref 0, .int (12 : Int32)] SM im P) (k : ∀ im2, P im2 → V mX10_looksAs (d + 1) b 42 [some (.ref 0), some (.int l1), some (.int l2)] [] SM im2 Q) : V mX10_looksAs (d + 1) b 36 [some (.ref 0), some (.int l1), some (.int l2)] [] SM im Q := by
  refine V.aload_n dX10_looksAs_36 rfl rfl ?_
  refine V.bipush (v := 12) dX10_looksAs_37 (by decide) ?_
  refine V.cVV rfl vX10_starts lkX10_228 wX10_starts (ci := 10) rfl (by rfl) (As := [.int (12 : Int32)]) rfl rfl rfl dX10_looksAs_39 hs (fun im2 h2 => ?_)
  exact k im2 h2
theorem bX10_looksAs_42 {d : Nat} {b : Nat × Nat}  {im : XI} {Q : Option Value → XS → XI → Prop} {l1 : Int32} {l2 : Int32} {P : Int32 → XI → Prop}  (hs : SpI mX10_kindNow d [.ref 0] SM im P) (k : ∀ x2 im2, P x2 im2 → V mX10_looksAs (d + 1) b 47 [some (.ref 0), some (.int l1), some (.int l2)] [.int x2, .ref 0] SM im2 Q) : V mX10_looksAs (d + 1) b 42 [some (.ref 0), some (.int l1), some (.int l2)] [] SM im Q := by
  refine V.aload_n dX10_looksAs_42 rfl rfl ?_
  refine V.aload_n dX10_looksAs_43 rfl rfl ?_
  refine V.cVI rfl vX10_kindNow lkX10_235 wX10_kindNow (ci := 10) rfl (by rfl) (As := []) rfl rfl rfl dX10_looksAs_44 hs (fun x2 im2 h2 => ?_)
  exact k x2 im2 h2
theorem bX10_looksAs_47 {d : Nat} {b : Nat × Nat}  {im : XI} {Q : Option Value → XS → XI → Prop} {l1 : Int32} {l2 : Int32} {s0 : Nat} {s1 : Int32} {P : Int32 → XI → Prop} (g0 : SM.1[s0]? = some (.inl 10)) (hs : SpI mX10_movesAs d [.ref s0, .int s1, .int l2] SM im P) (k : ∀ x2 im2, P x2 im2 → V mX10_looksAs (d + 1) b 51 [some (.ref 0), some (.int l1), some (.int l2)] [.int x2] SM im2 Q) : V mX10_looksAs (d + 1) b 47 [some (.ref 0), some (.int l1), some (.int l2)] [.int s1, .ref s0] SM im Q := by
  refine V.iload_n dX10_looksAs_47 rfl rfl ?_
  refine V.cVI rfl vX10_movesAs lkX10_238 wX10_movesAs (ci := 10) rfl g0 (As := [.int s1, .int l2]) rfl rfl rfl dX10_looksAs_48 hs (fun x2 im2 h2 => ?_)
  exact k x2 im2 h2
theorem bX10_looksAs_51 {d : Nat} {b : Nat × Nat}  {im : XI} {Q : Option Value → XS → XI → Prop} {l1 : Int32} {l2 : Int32} {s0 : Int32} {P : Int32 → XI → Prop}  (hs : SpI mX10_mNow d [.ref 0] SM im P) (k : ∀ x2 im2, P x2 im2 → V mX10_looksAs (d + 1) b 55 [some (.ref 0), some (.int l1), some (.int l2)] [.int x2, .int s0] SM im2 Q) : V mX10_looksAs (d + 1) b 51 [some (.ref 0), some (.int l1), some (.int l2)] [.int s0] SM im Q := by
  refine V.aload_n dX10_looksAs_51 rfl rfl ?_
  refine V.cVI rfl vX10_mNow lkX10_241 wX10_mNow (ci := 10) rfl (by rfl) (As := []) rfl rfl rfl dX10_looksAs_52 hs (fun x2 im2 h2 => ?_)
  exact k x2 im2 h2
theorem bX10_looksAs_55 {d : Nat} {b : Nat × Nat}  {im : XI} {Q : Option Value → XS → XI → Prop} {l1 : Int32} {l2 : Int32} {s0 : Int32} {s1 : Int32}  (hq : Q (some (.int (s0 - s1))) SM im) : V mX10_looksAs d b 55 [some (.ref 0), some (.int l1), some (.int l2)] [.int s1, .int s0] SM im Q := by
  refine V.isub dX10_looksAs_55 ?_
  exact V.iret rfl dX10_looksAs_56 hq
theorem bX10_looksAs_57 {d : Nat} {b : Nat × Nat}  {im : XI} {Q : Option Value → XS → XI → Prop} {l1 : Int32} {l2 : Int32} {P : XI → Prop}  (hs : SpV mX10_starts d [.ref 0, .int (40 : Int32)] SM im P) (k : ∀ im2, P im2 → V mX10_looksAs (d + 1) b 63 [some (.ref 0), some (.int l1), some (.int l2)] [] SM im2 Q) : V mX10_looksAs (d + 1) b 57 [some (.ref 0), some (.int l1), some (.int l2)] [] SM im Q := by
  refine V.aload_n dX10_looksAs_57 rfl rfl ?_
  refine V.bipush (v := 40) dX10_looksAs_58 (by decide) ?_
  refine V.cVV rfl vX10_starts lkX10_228 wX10_starts (ci := 10) rfl (by rfl) (As := [.int (40 : Int32)]) rfl rfl rfl dX10_looksAs_60 hs (fun im2 h2 => ?_)
  exact k im2 h2
theorem bX10_looksAs_63 {d : Nat} {b : Nat × Nat}  {im : XI} {Q : Option Value → XS → XI → Prop} {l1 : Int32} {l2 : Int32} {P : Int32 → XI → Prop}  (hs : SpI mX10_above d [.int (3 : Int32)] SM im P) (k : ∀ x2 im2, P x2 im2 → V mX10_looksAs (d + 1) b 68 [some (.ref 0), some (.int l1), some (.int l2)] [.int x2, .ref 0] SM im2 Q) : V mX10_looksAs (d + 1) b 63 [some (.ref 0), some (.int l1), some (.int l2)] [] SM im Q := by
  refine V.aload_n dX10_looksAs_63 rfl rfl ?_
  refine V.iconst (v := 3) dX10_looksAs_64 (by decide) ?_
  refine V.cSI rfl vX10_above lkX10_172 sX10_above (As := [.int (3 : Int32)]) rfl rfl rfl dX10_looksAs_65 hs (fun x2 im2 h2 => ?_)
  exact k x2 im2 h2
theorem bX10_looksAs_68 {d : Nat} {b : Nat × Nat}  {im : XI} {Q : Option Value → XS → XI → Prop} {l1 : Int32} {l2 : Int32} {s0 : Nat} {s1 : Int32} {P : Int32 → XI → Prop} (g0 : SM.1[s0]? = some (.inl 10)) (hs : SpI mX10_looksAs d [.ref s0, .int s1, .int (l2 / (2 : Int32))] SM im P) (k : ∀ x2 im2, P x2 im2 → V mX10_looksAs (d + 1) b 74 [some (.ref 0), some (.int l1), some (.int l2)] [.int x2] SM im2 Q) : V mX10_looksAs (d + 1) b 68 [some (.ref 0), some (.int l1), some (.int l2)] [.int s1, .ref s0] SM im Q := by
  refine V.iload_n dX10_looksAs_68 rfl rfl ?_
  refine V.iconst (v := 2) dX10_looksAs_69 (by decide) ?_
  refine V.idiv dX10_looksAs_70 (by decide) ?_
  refine V.cVI rfl vX10_looksAs lkX10_244 wX10_looksAs (ci := 10) rfl g0 (As := [.int s1, .int (l2 / (2 : Int32))]) rfl rfl rfl dX10_looksAs_71 hs (fun x2 im2 h2 => ?_)
  exact k x2 im2 h2
theorem bX10_looksAs_74 {d : Nat} {b : Nat × Nat}  {im : XI} {Q : Option Value → XS → XI → Prop} {l1 : Int32} {l2 : Int32} {s0 : Int32}  (hq : Q (some (.int s0)) SM im) : V mX10_looksAs d b 74 [some (.ref 0), some (.int l1), some (.int l2)] [.int s0] SM im Q := by
  exact V.iret rfl dX10_looksAs_74 hq
theorem bX10_looksAs_75 {d : Nat} {b : Nat × Nat}  {im : XI} {Q : Option Value → XS → XI → Prop} {l1 : Int32} {l2 : Int32} {P : XI → Prop}  (hs : SpV mX10_starts d [.ref 0, .int (51 : Int32)] SM im P) (k : ∀ im2, P im2 → V mX10_looksAs (d + 1) b 81 [some (.ref 0), some (.int l1), some (.int l2)] [] SM im2 Q) : V mX10_looksAs (d + 1) b 75 [some (.ref 0), some (.int l1), some (.int l2)] [] SM im Q := by
  refine V.aload_n dX10_looksAs_75 rfl rfl ?_
  refine V.bipush (v := 51) dX10_looksAs_76 (by decide) ?_
  refine V.cVV rfl vX10_starts lkX10_228 wX10_starts (ci := 10) rfl (by rfl) (As := [.int (51 : Int32)]) rfl rfl rfl dX10_looksAs_78 hs (fun im2 h2 => ?_)
  exact k im2 h2
theorem bX10_looksAs_81 {d : Nat} {b : Nat × Nat}  {im : XI} {Q : Option Value → XS → XI → Prop} {l1 : Int32} {l2 : Int32} {P : Int32 → XI → Prop}  (hs : SpI mX10_above d [.int (4 : Int32)] SM im P) (k : ∀ x2 im2, P x2 im2 → V mX10_looksAs (d + 1) b 86 [some (.ref 0), some (.int l1), some (.int l2)] [.int x2, .ref 0] SM im2 Q) : V mX10_looksAs (d + 1) b 81 [some (.ref 0), some (.int l1), some (.int l2)] [] SM im Q := by
  refine V.aload_n dX10_looksAs_81 rfl rfl ?_
  refine V.iconst (v := 4) dX10_looksAs_82 (by decide) ?_
  refine V.cSI rfl vX10_above lkX10_172 sX10_above (As := [.int (4 : Int32)]) rfl rfl rfl dX10_looksAs_83 hs (fun x2 im2 h2 => ?_)
  exact k x2 im2 h2
theorem bX10_looksAs_86 {d : Nat} {b : Nat × Nat}  {im : XI} {Q : Option Value → XS → XI → Prop} {l1 : Int32} {l2 : Int32} {s0 : Nat} {s1 : Int32} {P : Int32 → XI → Prop} (g0 : SM.1[s0]? = some (.inl 10)) (hs : SpI mX10_looksAs d [.ref s0, .int s1, .int l2] SM im P) (k : ∀ x2 im2, P x2 im2 → V mX10_looksAs (d + 1) b 90 [some (.ref 0), some (.int l1), some (.int l2)] [.int x2] SM im2 Q) : V mX10_looksAs (d + 1) b 86 [some (.ref 0), some (.int l1), some (.int l2)] [.int s1, .ref s0] SM im Q := by
  refine V.iload_n dX10_looksAs_86 rfl rfl ?_
  refine V.cVI rfl vX10_looksAs lkX10_244 wX10_looksAs (ci := 10) rfl g0 (As := [.int s1, .int l2]) rfl rfl rfl dX10_looksAs_87 hs (fun x2 im2 h2 => ?_)
  exact k x2 im2 h2
theorem bX10_looksAs_90 {d : Nat} {b : Nat × Nat}  {im : XI} {Q : Option Value → XS → XI → Prop} {l1 : Int32} {l2 : Int32} {s0 : Int32}  (hq : Q (some (.int (s0 ^^^ (im 0 14)))) SM im) : V mX10_looksAs d b 90 [some (.ref 0), some (.int l1), some (.int l2)] [.int s0] SM im Q := by
  refine V.aload_n dX10_looksAs_90 rfl rfl ?_
  refine V.getI fX10_225 rfl (by rfl) dX10_looksAs_91 ?_
  refine V.ixor dX10_looksAs_94 ?_
  exact V.iret rfl dX10_looksAs_95 hq
theorem bX10_looksAs_96 {d : Nat} {b : Nat × Nat}  {im : XI} {Q : Option Value → XS → XI → Prop} {l1 : Int32} {l2 : Int32} {P : Int32 → XI → Prop}  (hs : SpI mX10_above d [.int l1] SM im P) (k : ∀ x2 im2, P x2 im2 → V mX10_looksAs (d + 1) b 101 [some (.ref 0), some (.int l1), some (.int l2)] [.int x2, .ref 0] SM im2 Q) : V mX10_looksAs (d + 1) b 96 [some (.ref 0), some (.int l1), some (.int l2)] [] SM im Q := by
  refine V.aload_n dX10_looksAs_96 rfl rfl ?_
  refine V.iload_n dX10_looksAs_97 rfl rfl ?_
  refine V.cSI rfl vX10_above lkX10_172 sX10_above (As := [.int l1]) rfl rfl rfl dX10_looksAs_98 hs (fun x2 im2 h2 => ?_)
  exact k x2 im2 h2
theorem bX10_looksAs_101 {d : Nat} {b : Nat × Nat}  {im : XI} {Q : Option Value → XS → XI → Prop} {l1 : Int32} {l2 : Int32} {s0 : Nat} {s1 : Int32} {P : Int32 → XI → Prop} (g0 : SM.1[s0]? = some (.inl 10)) (hs : SpI mX10_looksAs d [.ref s0, .int s1, .int l2] SM im P) (k : ∀ x2 im2, P x2 im2 → V mX10_looksAs (d + 1) b 105 [some (.ref 0), some (.int l1), some (.int l2)] [.int x2] SM im2 Q) : V mX10_looksAs (d + 1) b 101 [some (.ref 0), some (.int l1), some (.int l2)] [.int s1, .ref s0] SM im Q := by
  refine V.iload_n dX10_looksAs_101 rfl rfl ?_
  refine V.cVI rfl vX10_looksAs lkX10_244 wX10_looksAs (ci := 10) rfl g0 (As := [.int s1, .int l2]) rfl rfl rfl dX10_looksAs_102 hs (fun x2 im2 h2 => ?_)
  exact k x2 im2 h2
theorem bX10_looksAs_105 {d : Nat} {b : Nat × Nat}  {im : XI} {Q : Option Value → XS → XI → Prop} {l1 : Int32} {l2 : Int32} {s0 : Int32}  (hq : Q (some (.int s0)) SM im) : V mX10_looksAs d b 105 [some (.ref 0), some (.int l1), some (.int l2)] [.int s0] SM im Q := by
  exact V.iret rfl dX10_looksAs_105 hq
theorem bX10_partsAs_0 {d : Nat} {b : Nat × Nat}  {im : XI} {Q : Option Value → XS → XI → Prop} {l1 : Int32} {l2 : Int32}  (k0 : l1 = 0 → V mX10_partsAs d b 28 [some (.ref 0), some (.int l1), some (.int l2), none, none] [] SM im Q) (k1 : l1 = 1 → V mX10_partsAs d b 79 [some (.ref 0), some (.int l1), some (.int l2), none, none] [] SM im Q) (kd : ¬ l1 = 0 → ¬ l1 = 1 → V mX10_partsAs d b 120 [some (.ref 0), some (.int l1), some (.int l2), none, none] [] SM im Q) : V mX10_partsAs d b 0 [some (.ref 0), some (.int l1), some (.int l2), none, none] [] SM im Q := by
  refine V.iload_n dX10_partsAs_0 rfl rfl ?_
  by_cases c0 : l1 = 0
  · exact V.lookup (tgt := 28) (off := 27) dX10_partsAs_1 rfl (by rw [c0] <;> rfl) (by decide) (k0 c0)
  · skip
    by_cases c1 : l1 = 1
    · exact V.lookup (tgt := 79) (off := 78) dX10_partsAs_1 rfl (by rw [c1] <;> rfl) (by decide) (k1 c1)
    · skip
      exact V.lookup (tgt := 120) (off := 119) dX10_partsAs_1 rfl ((lv_osw c0 rfl).trans ((lv_osw c1 rfl).trans rfl)) (by decide) (kd c0 c1)
theorem bX10_partsAs_28 {d : Nat} {b : Nat × Nat}  {im : XI} {Q : Option Value → XS → XI → Prop} {l1 : Int32} {l2 : Int32} {P : XI → Prop}  (hs : SpV mX10_starts d [.ref 0, .int (13 : Int32)] SM im P) (k : ∀ im2, P im2 → V mX10_partsAs (d + 1) b 34 [some (.ref 0), some (.int l1), some (.int l2), none, none] [] SM im2 Q) : V mX10_partsAs (d + 1) b 28 [some (.ref 0), some (.int l1), some (.int l2), none, none] [] SM im Q := by
  refine V.aload_n dX10_partsAs_28 rfl rfl ?_
  refine V.bipush (v := 13) dX10_partsAs_29 (by decide) ?_
  refine V.cVV rfl vX10_starts lkX10_228 wX10_starts (ci := 10) rfl (by rfl) (As := [.int (13 : Int32)]) rfl rfl rfl dX10_partsAs_31 hs (fun im2 h2 => ?_)
  exact k im2 h2
theorem bX10_partsAs_34 {d : Nat} {b : Nat × Nat}  {im : XI} {Q : Option Value → XS → XI → Prop} {l1 : Int32} {l2 : Int32} {P : Int32 → XI → Prop}  (hs : SpI mX10_mNow d [.ref 0] SM im P) (k : ∀ x2 im2, P x2 im2 → V mX10_partsAs (d + 1) b 38 [some (.ref 0), some (.int l1), some (.int l2), none, none] [.int x2] SM im2 Q) : V mX10_partsAs (d + 1) b 34 [some (.ref 0), some (.int l1), some (.int l2), none, none] [] SM im Q := by
  refine V.aload_n dX10_partsAs_34 rfl rfl ?_
  refine V.cVI rfl vX10_mNow lkX10_241 wX10_mNow (ci := 10) rfl (by rfl) (As := []) rfl rfl rfl dX10_partsAs_35 hs (fun x2 im2 h2 => ?_)
  exact k x2 im2 h2
theorem bX10_partsAs_38 {d : Nat} {b : Nat × Nat}  {im : XI} {Q : Option Value → XS → XI → Prop} {l1 : Int32} {l2 : Int32} {s0 : Int32}  (kt : ¬ (s0 - (im 0 14)) = 0 → V mX10_partsAs d b 53 [some (.ref 0), some (.int l1), some (.int l2), some (.int (s0 - (im 0 14))), none] [.ref 0] SM im Q) (kf : (s0 - (im 0 14)) = 0 → V mX10_partsAs d b 49 [some (.ref 0), some (.int l1), some (.int l2), some (.int (s0 - (im 0 14))), none] [.ref 0] SM im Q) : V mX10_partsAs d b 38 [some (.ref 0), some (.int l1), some (.int l2), none, none] [.int s0] SM im Q := by
  refine V.aload_n dX10_partsAs_38 rfl rfl ?_
  refine V.getI fX10_225 rfl (by rfl) dX10_partsAs_39 ?_
  refine V.isub dX10_partsAs_42 ?_
  refine V.istore_n dX10_partsAs_43 rfl rfl rfl ?_
  refine V.aload_n dX10_partsAs_44 rfl rfl ?_
  refine V.iload_n dX10_partsAs_45 rfl rfl ?_
  refine V.if_ne (tgt := 53) dX10_partsAs_46 (by decide) (fun h => ?_) (fun h => ?_)
  · exact kt h
  · exact kf h
theorem bX10_partsAs_49 {d : Nat} {b : Nat × Nat}  {im : XI} {Q : Option Value → XS → XI → Prop} {l1 : Int32} {l2 : Int32} {l3 : Int32} {s0 : Nat}  (k : V mX10_partsAs d b 54 [some (.ref 0), some (.int l1), some (.int l2), some (.int l3), none] [.int (1 : Int32), .ref s0] SM im Q) : V mX10_partsAs d b 49 [some (.ref 0), some (.int l1), some (.int l2), some (.int l3), none] [.ref s0] SM im Q := by
  refine V.iconst (v := 1) dX10_partsAs_49 (by decide) ?_
  refine V.goto (tgt := 54) dX10_partsAs_50 (by decide) ?_
  exact k
theorem bX10_partsAs_53 {d : Nat} {b : Nat × Nat}  {im : XI} {Q : Option Value → XS → XI → Prop} {l1 : Int32} {l2 : Int32} {l3 : Int32} {s0 : Nat}  (k : V mX10_partsAs d b 54 [some (.ref 0), some (.int l1), some (.int l2), some (.int l3), none] [.int (0 : Int32), .ref s0] SM im Q) : V mX10_partsAs d b 53 [some (.ref 0), some (.int l1), some (.int l2), some (.int l3), none] [.ref s0] SM im Q := by
  refine V.iconst (v := 0) dX10_partsAs_53 (by decide) ?_
  exact k
theorem bX10_partsAs_54 {d : Nat} {b : Nat × Nat}  {im : XI} {Q : Option Value → XS → XI → Prop} {l1 : Int32} {l2 : Int32} {l3 : Int32} {s0 : Nat} {s1 : Int32} (g0 : SM.1[s0]? = some (.inl 10)) (g1 : s1 = 0 ∨ s1 = 1) (kt : ¬ l3 = 0 → V mX10_partsAs d b 65 [some (.ref 0), some (.int l1), some (.int l2), some (.int l3), none] [] SM (xup im s0 15 s1) Q) (kf : l3 = 0 → V mX10_partsAs d b 61 [some (.ref 0), some (.int l1), some (.int l2), some (.int l3), none] [] SM (xup im s0 15 s1) Q) : V mX10_partsAs d b 54 [some (.ref 0), some (.int l1), some (.int l2), some (.int l3), none] [.int s1, .ref s0] SM im Q := by
  refine V.putZ fX10_247 (fun h => by cases h) rfl g1 g0 dX10_partsAs_54 ?_
  refine V.iload_n dX10_partsAs_57 rfl rfl ?_
  refine V.if_ne (tgt := 65) dX10_partsAs_58 (by decide) (fun h => ?_) (fun h => ?_)
  · exact kt h
  · exact kf h
theorem bX10_partsAs_61 {d : Nat} {b : Nat × Nat}  {im : XI} {Q : Option Value → XS → XI → Prop} {l1 : Int32} {l2 : Int32} {l3 : Int32}  (k : V mX10_partsAs d b 78 [some (.ref 0), some (.int l1), some (.int l2), some (.int l3), none] [.int (0 : Int32)] SM im Q) : V mX10_partsAs d b 61 [some (.ref 0), some (.int l1), some (.int l2), some (.int l3), none] [] SM im Q := by
  refine V.iconst (v := 0) dX10_partsAs_61 (by decide) ?_
  refine V.goto (tgt := 78) dX10_partsAs_62 (by decide) ?_
  exact k
theorem bX10_partsAs_65 {d : Nat} {b : Nat × Nat}  {im : XI} {Q : Option Value → XS → XI → Prop} {l1 : Int32} {l2 : Int32} {l3 : Int32}  (kt : ¬ l3 = (-1 : Int32) → V mX10_partsAs d b 75 [some (.ref 0), some (.int l1), some (.int l2), some (.int l3), none] [] SM im Q) (kf : l3 = (-1 : Int32) → V mX10_partsAs d b 70 [some (.ref 0), some (.int l1), some (.int l2), some (.int l3), none] [] SM im Q) : V mX10_partsAs d b 65 [some (.ref 0), some (.int l1), some (.int l2), some (.int l3), none] [] SM im Q := by
  refine V.iload_n dX10_partsAs_65 rfl rfl ?_
  refine V.iconst (v := -1) dX10_partsAs_66 (by decide) ?_
  refine V.icmp_ne (tgt := 75) dX10_partsAs_67 (by decide) (fun h => ?_) (fun h => ?_)
  · exact kt h
  · exact kf h
theorem bX10_partsAs_70 {d : Nat} {b : Nat × Nat}  {im : XI} {Q : Option Value → XS → XI → Prop} {l1 : Int32} {l2 : Int32} {l3 : Int32}  (k : V mX10_partsAs d b 78 [some (.ref 0), some (.int l1), some (.int l2), some (.int l3), none] [.int (-l2)] SM im Q) : V mX10_partsAs d b 70 [some (.ref 0), some (.int l1), some (.int l2), some (.int l3), none] [] SM im Q := by
  refine V.iload_n dX10_partsAs_70 rfl rfl ?_
  refine V.ineg dX10_partsAs_71 ?_
  refine V.goto (tgt := 78) dX10_partsAs_72 (by decide) ?_
  exact k
theorem bX10_partsAs_75 {d : Nat} {b : Nat × Nat}  {im : XI} {Q : Option Value → XS → XI → Prop} {l1 : Int32} {l2 : Int32} {l3 : Int32} (g0 : ¬ l3 = 0) (k : V mX10_partsAs d b 78 [some (.ref 0), some (.int l1), some (.int l2), some (.int l3), none] [.int (l2 / l3)] SM im Q) : V mX10_partsAs d b 75 [some (.ref 0), some (.int l1), some (.int l2), some (.int l3), none] [] SM im Q := by
  refine V.iload_n dX10_partsAs_75 rfl rfl ?_
  refine V.iload_n dX10_partsAs_76 rfl rfl ?_
  refine V.idiv dX10_partsAs_77 g0 ?_
  exact k
theorem bX10_partsAs_78 {d : Nat} {b : Nat × Nat}  {im : XI} {Q : Option Value → XS → XI → Prop} {l1 : Int32} {l2 : Int32} {l3 : Int32} {s0 : Int32}  (hq : Q (some (.int s0)) SM im) : V mX10_partsAs d b 78 [some (.ref 0), some (.int l1), some (.int l2), some (.int l3), none] [.int s0] SM im Q := by
  exact V.iret rfl dX10_partsAs_78 hq
theorem bX10_partsAs_79 {d : Nat} {b : Nat × Nat}  {im : XI} {Q : Option Value → XS → XI → Prop} {l1 : Int32} {l2 : Int32} {P : XI → Prop}  (hs : SpV mX10_starts d [.ref 0, .int (21 : Int32)] SM im P) (k : ∀ im2, P im2 → V mX10_partsAs (d + 1) b 85 [some (.ref 0), some (.int l1), some (.int l2), none, none] [] SM im2 Q) : V mX10_partsAs (d + 1) b 79 [some (.ref 0), some (.int l1), some (.int l2), none, none] [] SM im Q := by
  refine V.aload_n dX10_partsAs_79 rfl rfl ?_
  refine V.bipush (v := 21) dX10_partsAs_80 (by decide) ?_
  refine V.cVV rfl vX10_starts lkX10_228 wX10_starts (ci := 10) rfl (by rfl) (As := [.int (21 : Int32)]) rfl rfl rfl dX10_partsAs_82 hs (fun im2 h2 => ?_)
  exact k im2 h2
theorem bX10_partsAs_85 {d : Nat} {b : Nat × Nat}  {im : XI} {Q : Option Value → XS → XI → Prop} {l1 : Int32} {l2 : Int32} {P : Int32 → XI → Prop}  (hs : SpI mX10_above d [.int (1 : Int32)] SM im P) (k : ∀ x2 im2, P x2 im2 → V mX10_partsAs (d + 1) b 90 [some (.ref 0), some (.int l1), some (.int l2), none, none] [.int x2, .ref 0] SM im2 Q) : V mX10_partsAs (d + 1) b 85 [some (.ref 0), some (.int l1), some (.int l2), none, none] [] SM im Q := by
  refine V.aload_n dX10_partsAs_85 rfl rfl ?_
  refine V.iconst (v := 1) dX10_partsAs_86 (by decide) ?_
  refine V.cSI rfl vX10_above lkX10_172 sX10_above (As := [.int (1 : Int32)]) rfl rfl rfl dX10_partsAs_87 hs (fun x2 im2 h2 => ?_)
  exact k x2 im2 h2
theorem bX10_partsAs_90 {d : Nat} {b : Nat × Nat}  {im : XI} {Q : Option Value → XS → XI → Prop} {l1 : Int32} {l2 : Int32} {s0 : Nat} {s1 : Int32} {P : Int32 → XI → Prop} (g0 : SM.1[s0]? = some (.inl 10)) (hs : SpI mX10_partsAs d [.ref s0, .int s1, .int l2] SM im P) (k : ∀ x2 im2, P x2 im2 → V mX10_partsAs (d + 1) b 94 [some (.ref 0), some (.int l1), some (.int l2), none, none] [.int x2] SM im2 Q) : V mX10_partsAs (d + 1) b 90 [some (.ref 0), some (.int l1), some (.int l2), none, none] [.int s1, .ref s0] SM im Q := by
  refine V.iload_n dX10_partsAs_90 rfl rfl ?_
  refine V.cVI rfl vX10_partsAs lkX10_251 wX10_partsAs (ci := 10) rfl g0 (As := [.int s1, .int l2]) rfl rfl rfl dX10_partsAs_91 hs (fun x2 im2 h2 => ?_)
  exact k x2 im2 h2
theorem bX10_partsAs_94 {d : Nat} {b : Nat × Nat}  {im : XI} {Q : Option Value → XS → XI → Prop} {l1 : Int32} {l2 : Int32} {s0 : Int32}  (kt : (im 0 15) = 0 → V mX10_partsAs d b 107 [some (.ref 0), some (.int l1), some (.int l2), none, some (.int s0)] [] SM im Q) (kf : ¬ (im 0 15) = 0 → V mX10_partsAs d b 103 [some (.ref 0), some (.int l1), some (.int l2), none, some (.int s0)] [] SM im Q) : V mX10_partsAs d b 94 [some (.ref 0), some (.int l1), some (.int l2), none, none] [.int s0] SM im Q := by
  refine V.istore dX10_partsAs_94 rfl rfl ?_
  refine V.aload_n dX10_partsAs_96 rfl rfl ?_
  refine V.getI fX10_247 rfl (by rfl) dX10_partsAs_97 ?_
  refine V.if_eq (tgt := 107) dX10_partsAs_100 (by decide) (fun h => ?_) (fun h => ?_)
  · exact kt h
  · exact kf h
theorem bX10_partsAs_103 {d : Nat} {b : Nat × Nat}  {im : XI} {Q : Option Value → XS → XI → Prop} {l1 : Int32} {l2 : Int32} {l4 : Int32}  (k : V mX10_partsAs d b 119 [some (.ref 0), some (.int l1), some (.int l2), none, some (.int l4)] [.int (0 : Int32)] SM im Q) : V mX10_partsAs d b 103 [some (.ref 0), some (.int l1), some (.int l2), none, some (.int l4)] [] SM im Q := by
  refine V.iconst (v := 0) dX10_partsAs_103 (by decide) ?_
  refine V.goto (tgt := 119) dX10_partsAs_104 (by decide) ?_
  exact k
theorem bX10_partsAs_107 {d : Nat} {b : Nat × Nat}  {im : XI} {Q : Option Value → XS → XI → Prop} {l1 : Int32} {l2 : Int32} {l4 : Int32} {P : Int32 → XI → Prop}  (hs : SpI mX10_kindNow d [.ref 0] SM im P) (k : ∀ x2 im2, P x2 im2 → V mX10_partsAs (d + 1) b 114 [some (.ref 0), some (.int l1), some (.int l2), none, some (.int l4)] [.int x2, .ref 0, .int l4] SM im2 Q) : V mX10_partsAs (d + 1) b 107 [some (.ref 0), some (.int l1), some (.int l2), none, some (.int l4)] [] SM im Q := by
  refine V.iload dX10_partsAs_107 rfl ?_
  refine V.aload_n dX10_partsAs_109 rfl rfl ?_
  refine V.aload_n dX10_partsAs_110 rfl rfl ?_
  refine V.cVI rfl vX10_kindNow lkX10_235 wX10_kindNow (ci := 10) rfl (by rfl) (As := []) rfl rfl rfl dX10_partsAs_111 hs (fun x2 im2 h2 => ?_)
  exact k x2 im2 h2
theorem bX10_partsAs_114 {d : Nat} {b : Nat × Nat}  {im : XI} {Q : Option Value → XS → XI → Prop} {l1 : Int32} {l2 : Int32} {l4 : Int32} {s0 : Int32} {s1 : Nat} {s2 : Int32} {P : Int32 → XI → Prop} (g0 : SM.1[s1]? = some (.inl 10)) (hs : SpI mX10_movesAs d [.ref s1, .int s2, .int (1 : Int32)] SM im P) (k : ∀ x2 im2, P x2 im2 → V mX10_partsAs (d + 1) b 118 [some (.ref 0), some (.int l1), some (.int l2), none, some (.int l4)] [.int x2, .int s0] SM im2 Q) : V mX10_partsAs (d + 1) b 114 [some (.ref 0), some (.int l1), some (.int l2), none, some (.int l4)] [.int s2, .ref s1, .int s0] SM im Q := by
  refine V.iconst (v := 1) dX10_partsAs_114 (by decide) ?_
  refine V.cVI rfl vX10_movesAs lkX10_238 wX10_movesAs (ci := 10) rfl g0 (As := [.int s2, .int (1 : Int32)]) rfl rfl rfl dX10_partsAs_115 hs (fun x2 im2 h2 => ?_)
  exact k x2 im2 h2
theorem bX10_partsAs_118 {d : Nat} {b : Nat × Nat}  {im : XI} {Q : Option Value → XS → XI → Prop} {l1 : Int32} {l2 : Int32} {l4 : Int32} {s0 : Int32} {s1 : Int32}  (k : V mX10_partsAs d b 119 [some (.ref 0), some (.int l1), some (.int l2), none, some (.int l4)] [.int (s0 + s1)] SM im Q) : V mX10_partsAs d b 118 [some (.ref 0), some (.int l1), some (.int l2), none, some (.int l4)] [.int s1, .int s0] SM im Q := by
  refine V.iadd dX10_partsAs_118 ?_
  exact k
theorem bX10_partsAs_119 {d : Nat} {b : Nat × Nat}  {im : XI} {Q : Option Value → XS → XI → Prop} {l1 : Int32} {l2 : Int32} {l4 : Int32} {s0 : Int32}  (hq : Q (some (.int s0)) SM im) : V mX10_partsAs d b 119 [some (.ref 0), some (.int l1), some (.int l2), none, some (.int l4)] [.int s0] SM im Q := by
  exact V.iret rfl dX10_partsAs_119 hq
theorem bX10_partsAs_120 {d : Nat} {b : Nat × Nat}  {im : XI} {Q : Option Value → XS → XI → Prop} {l1 : Int32} {l2 : Int32} {P : Int32 → XI → Prop}  (hs : SpI mX10_above d [.int l1] SM im P) (k : ∀ x2 im2, P x2 im2 → V mX10_partsAs (d + 1) b 125 [some (.ref 0), some (.int l1), some (.int l2), none, none] [.int x2, .ref 0] SM im2 Q) : V mX10_partsAs (d + 1) b 120 [some (.ref 0), some (.int l1), some (.int l2), none, none] [] SM im Q := by
  refine V.aload_n dX10_partsAs_120 rfl rfl ?_
  refine V.iload_n dX10_partsAs_121 rfl rfl ?_
  refine V.cSI rfl vX10_above lkX10_172 sX10_above (As := [.int l1]) rfl rfl rfl dX10_partsAs_122 hs (fun x2 im2 h2 => ?_)
  exact k x2 im2 h2
theorem bX10_partsAs_125 {d : Nat} {b : Nat × Nat}  {im : XI} {Q : Option Value → XS → XI → Prop} {l1 : Int32} {l2 : Int32} {s0 : Nat} {s1 : Int32} {P : Int32 → XI → Prop} (g0 : SM.1[s0]? = some (.inl 10)) (hs : SpI mX10_partsAs d [.ref s0, .int s1, .int l2] SM im P) (k : ∀ x2 im2, P x2 im2 → V mX10_partsAs (d + 1) b 129 [some (.ref 0), some (.int l1), some (.int l2), none, none] [.int x2] SM im2 Q) : V mX10_partsAs (d + 1) b 125 [some (.ref 0), some (.int l1), some (.int l2), none, none] [.int s1, .ref s0] SM im Q := by
  refine V.iload_n dX10_partsAs_125 rfl rfl ?_
  refine V.cVI rfl vX10_partsAs lkX10_251 wX10_partsAs (ci := 10) rfl g0 (As := [.int s1, .int l2]) rfl rfl rfl dX10_partsAs_126 hs (fun x2 im2 h2 => ?_)
  exact k x2 im2 h2
theorem bX10_partsAs_129 {d : Nat} {b : Nat × Nat}  {im : XI} {Q : Option Value → XS → XI → Prop} {l1 : Int32} {l2 : Int32} {s0 : Int32}  (hq : Q (some (.int s0)) SM im) : V mX10_partsAs d b 129 [some (.ref 0), some (.int l1), some (.int l2), none, none] [.int s0] SM im Q := by
  exact V.iret rfl dX10_partsAs_129 hq
theorem bX10_voice_0 {d : Nat} {b : Nat × Nat}  {im : XI} {Q : Option Value → XS → XI → Prop} {l1 : Int32} {l2 : Int32} {l3 : Int32} {P : Int32 → XI → Prop}  (hs : SpI mX10_isPerson d [.ref 0, .int l1] SM im P) (k : ∀ x2 im2, P x2 im2 → V mX10_voice (d + 1) b 5 [some (.ref 0), some (.int l1), some (.int l2), some (.int l3), none, none] [.int x2] SM im2 Q) : V mX10_voice (d + 1) b 0 [some (.ref 0), some (.int l1), some (.int l2), some (.int l3), none, none] [] SM im Q := by
  refine V.aload_n dX10_voice_0 rfl rfl ?_
  refine V.iload_n dX10_voice_1 rfl rfl ?_
  refine V.cVI rfl vX10_isPerson lkX10_166 wX10_isPerson (ci := 10) rfl (by rfl) (As := [.int l1]) rfl rfl rfl dX10_voice_2 hs (fun x2 im2 h2 => ?_)
  exact k x2 im2 h2
theorem bX10_voice_5 {d : Nat} {b : Nat × Nat}  {im : XI} {Q : Option Value → XS → XI → Prop} {l1 : Int32} {l2 : Int32} {l3 : Int32} {s0 : Int32}  (kt : s0 = 0 → V mX10_voice d b 17 [some (.ref 0), some (.int l1), some (.int l2), some (.int l3), none, none] [] SM im Q) (kf : ¬ s0 = 0 → V mX10_voice d b 8 [some (.ref 0), some (.int l1), some (.int l2), some (.int l3), none, none] [] SM im Q) : V mX10_voice d b 5 [some (.ref 0), some (.int l1), some (.int l2), some (.int l3), none, none] [.int s0] SM im Q := by
  refine V.if_eq (tgt := 17) dX10_voice_5 (by decide) (fun h => ?_) (fun h => ?_)
  · exact kt h
  · exact kf h
theorem bX10_voice_8 {d : Nat} {b : Nat × Nat}  {im : XI} {Q : Option Value → XS → XI → Prop} {l1 : Int32} {l2 : Int32} {l3 : Int32} {P : Int32 → XI → Prop}  (hs : SpI mX10_in d [.int l2, .int (0 : Int32), .int (3 : Int32)] SM im P) (k : ∀ x2 im2, P x2 im2 → V mX10_voice (d + 1) b 14 [some (.ref 0), some (.int l1), some (.int l2), some (.int l3), none, none] [.int x2] SM im2 Q) : V mX10_voice (d + 1) b 8 [some (.ref 0), some (.int l1), some (.int l2), some (.int l3), none, none] [] SM im Q := by
  refine V.iload_n dX10_voice_8 rfl rfl ?_
  refine V.iconst (v := 0) dX10_voice_9 (by decide) ?_
  refine V.iconst (v := 3) dX10_voice_10 (by decide) ?_
  refine V.cSI rfl vX10_in lkX10_47 sX10_in (As := [.int l2, .int (0 : Int32), .int (3 : Int32)]) rfl rfl rfl dX10_voice_11 hs (fun x2 im2 h2 => ?_)
  exact k x2 im2 h2
theorem bX10_voice_14 {d : Nat} {b : Nat × Nat}  {im : XI} {Q : Option Value → XS → XI → Prop} {l1 : Int32} {l2 : Int32} {l3 : Int32} {s0 : Int32}  (kt : ¬ s0 = 0 → V mX10_voice d b 23 [some (.ref 0), some (.int l1), some (.int l2), some (.int l3), none, none] [] SM im Q) (kf : s0 = 0 → V mX10_voice d b 17 [some (.ref 0), some (.int l1), some (.int l2), some (.int l3), none, none] [] SM im Q) : V mX10_voice d b 14 [some (.ref 0), some (.int l1), some (.int l2), some (.int l3), none, none] [.int s0] SM im Q := by
  refine V.if_ne (tgt := 23) dX10_voice_14 (by decide) (fun h => ?_) (fun h => ?_)
  · exact kt h
  · exact kf h
theorem bX10_voice_17 {d : Nat} {b : Nat × Nat}  {im : XI} {Q : Option Value → XS → XI → Prop} {l1 : Int32} {l2 : Int32} {l3 : Int32} {P : Int32 → XI → Prop}  (hs : SpI mX10_error d [.ref 0, .int (1 : Int32)] SM im P) (k : ∀ x2 im2, P x2 im2 → V mX10_voice (d + 1) b 22 [some (.ref 0), some (.int l1), some (.int l2), some (.int l3), none, none] [.int x2] SM im2 Q) : V mX10_voice (d + 1) b 17 [some (.ref 0), some (.int l1), some (.int l2), some (.int l3), none, none] [] SM im Q := by
  refine V.aload_n dX10_voice_17 rfl rfl ?_
  refine V.iconst (v := 1) dX10_voice_18 (by decide) ?_
  refine V.cVI rfl vX10_error lkX10_51 wX10_error (ci := 10) rfl (by rfl) (As := [.int (1 : Int32)]) rfl rfl rfl dX10_voice_19 hs (fun x2 im2 h2 => ?_)
  exact k x2 im2 h2
theorem bX10_voice_22 {d : Nat} {b : Nat × Nat}  {im : XI} {Q : Option Value → XS → XI → Prop} {l1 : Int32} {l2 : Int32} {l3 : Int32} {s0 : Int32}  (hq : Q (some (.int s0)) SM im) : V mX10_voice d b 22 [some (.ref 0), some (.int l1), some (.int l2), some (.int l3), none, none] [.int s0] SM im Q := by
  exact V.iret rfl dX10_voice_22 hq
theorem bX10_voice_23 {d : Nat} {b : Nat × Nat}  {im : XI} {Q : Option Value → XS → XI → Prop} {l1 : Int32} {l2 : Int32} {l3 : Int32} {P : Int32 → XI → Prop}  (hs : SpI mX10_kindNow d [.ref 0] SM (xup (xup (xup im 0 12 (0 : Int32)) 0 14 l1) 0 15 (0 : Int32)) P) (k : ∀ x2 im2, P x2 im2 → V mX10_voice (d + 1) b 42 [some (.ref 0), some (.int l1), some (.int l2), some (.int l3), none, none] [.int x2] SM im2 Q) : V mX10_voice (d + 1) b 23 [some (.ref 0), some (.int l1), some (.int l2), some (.int l3), none, none] [] SM im Q := by
  refine V.aload_n dX10_voice_23 rfl rfl ?_
  refine V.iconst (v := 0) dX10_voice_24 (by decide) ?_
  refine V.putI fX10_222 (fun h => by cases h) rfl (by rfl) dX10_voice_25 ?_
  refine V.aload_n dX10_voice_28 rfl rfl ?_
  refine V.iload_n dX10_voice_29 rfl rfl ?_
  refine V.putI fX10_225 (fun h => by cases h) rfl (by rfl) dX10_voice_30 ?_
  refine V.aload_n dX10_voice_33 rfl rfl ?_
  refine V.iconst (v := 0) dX10_voice_34 (by decide) ?_
  refine V.putZ fX10_247 (fun h => by cases h) rfl (by decide) (by rfl) dX10_voice_35 ?_
  refine V.aload_n dX10_voice_38 rfl rfl ?_
  refine V.cVI rfl vX10_kindNow lkX10_235 wX10_kindNow (ci := 10) rfl (by rfl) (As := []) rfl rfl rfl dX10_voice_39 hs (fun x2 im2 h2 => ?_)
  exact k x2 im2 h2
theorem bX10_voice_42 {d : Nat} {b : Nat × Nat}  {im : XI} {Q : Option Value → XS → XI → Prop} {l1 : Int32} {l2 : Int32} {l3 : Int32} {s0 : Int32}  (kt : ¬ l2 = 0 → V mX10_voice d b 58 [some (.ref 0), some (.int l1), some (.int l2), some (.int l3), some (.int s0), none] [] SM im Q) (kf : l2 = 0 → V mX10_voice d b 48 [some (.ref 0), some (.int l1), some (.int l2), some (.int l3), some (.int s0), none] [] SM im Q) : V mX10_voice d b 42 [some (.ref 0), some (.int l1), some (.int l2), some (.int l3), none, none] [.int s0] SM im Q := by
  refine V.istore dX10_voice_42 rfl rfl ?_
  refine V.iload_n dX10_voice_44 rfl rfl ?_
  refine V.if_ne (tgt := 58) dX10_voice_45 (by decide) (fun h => ?_) (fun h => ?_)
  · exact kt h
  · exact kf h
theorem bX10_voice_48 {d : Nat} {b : Nat × Nat}  {im : XI} {Q : Option Value → XS → XI → Prop} {l1 : Int32} {l2 : Int32} {l3 : Int32} {l4 : Int32} {P : Int32 → XI → Prop}  (hs : SpI mX10_blinksAs d [.ref 0, .int l4, .int l3] SM im P) (k : ∀ x2 im2, P x2 im2 → V mX10_voice (d + 1) b 55 [some (.ref 0), some (.int l1), some (.int l2), some (.int l3), some (.int l4), none] [.int x2] SM im2 Q) : V mX10_voice (d + 1) b 48 [some (.ref 0), some (.int l1), some (.int l2), some (.int l3), some (.int l4), none] [] SM im Q := by
  refine V.aload_n dX10_voice_48 rfl rfl ?_
  refine V.iload dX10_voice_49 rfl ?_
  refine V.iload_n dX10_voice_51 rfl rfl ?_
  refine V.cVI rfl vX10_blinksAs lkX10_232 wX10_blinksAs (ci := 10) rfl (by rfl) (As := [.int l4, .int l3]) rfl rfl rfl dX10_voice_52 hs (fun x2 im2 h2 => ?_)
  exact k x2 im2 h2
theorem bX10_voice_55 {d : Nat} {b : Nat × Nat}  {im : XI} {Q : Option Value → XS → XI → Prop} {l1 : Int32} {l2 : Int32} {l3 : Int32} {l4 : Int32} {s0 : Int32}  (k : V mX10_voice d b 95 [some (.ref 0), some (.int l1), some (.int l2), some (.int l3), some (.int l4), none] [.int s0] SM im Q) : V mX10_voice d b 55 [some (.ref 0), some (.int l1), some (.int l2), some (.int l3), some (.int l4), none] [.int s0] SM im Q := by
  refine V.goto (tgt := 95) dX10_voice_55 (by decide) ?_
  exact k
theorem bX10_voice_58 {d : Nat} {b : Nat × Nat}  {im : XI} {Q : Option Value → XS → XI → Prop} {l1 : Int32} {l2 : Int32} {l3 : Int32} {l4 : Int32}  (kt : ¬ l2 = (1 : Int32) → V mX10_voice d b 73 [some (.ref 0), some (.int l1), some (.int l2), some (.int l3), some (.int l4), none] [] SM im Q) (kf : l2 = (1 : Int32) → V mX10_voice d b 63 [some (.ref 0), some (.int l1), some (.int l2), some (.int l3), some (.int l4), none] [] SM im Q) : V mX10_voice d b 58 [some (.ref 0), some (.int l1), some (.int l2), some (.int l3), some (.int l4), none] [] SM im Q := by
  refine V.iload_n dX10_voice_58 rfl rfl ?_
  refine V.iconst (v := 1) dX10_voice_59 (by decide) ?_
  refine V.icmp_ne (tgt := 73) dX10_voice_60 (by decide) (fun h => ?_) (fun h => ?_)
  · exact kt h
  · exact kf h
theorem bX10_voice_63 {d : Nat} {b : Nat × Nat}  {im : XI} {Q : Option Value → XS → XI → Prop} {l1 : Int32} {l2 : Int32} {l3 : Int32} {l4 : Int32} {P : Int32 → XI → Prop}  (hs : SpI mX10_movesAs d [.ref 0, .int l4, .int l3] SM im P) (k : ∀ x2 im2, P x2 im2 → V mX10_voice (d + 1) b 70 [some (.ref 0), some (.int l1), some (.int l2), some (.int l3), some (.int l4), none] [.int x2] SM im2 Q) : V mX10_voice (d + 1) b 63 [some (.ref 0), some (.int l1), some (.int l2), some (.int l3), some (.int l4), none] [] SM im Q := by
  refine V.aload_n dX10_voice_63 rfl rfl ?_
  refine V.iload dX10_voice_64 rfl ?_
  refine V.iload_n dX10_voice_66 rfl rfl ?_
  refine V.cVI rfl vX10_movesAs lkX10_238 wX10_movesAs (ci := 10) rfl (by rfl) (As := [.int l4, .int l3]) rfl rfl rfl dX10_voice_67 hs (fun x2 im2 h2 => ?_)
  exact k x2 im2 h2
theorem bX10_voice_70 {d : Nat} {b : Nat × Nat}  {im : XI} {Q : Option Value → XS → XI → Prop} {l1 : Int32} {l2 : Int32} {l3 : Int32} {l4 : Int32} {s0 : Int32}  (k : V mX10_voice d b 95 [some (.ref 0), some (.int l1), some (.int l2), some (.int l3), some (.int l4), none] [.int s0] SM im Q) : V mX10_voice d b 70 [some (.ref 0), some (.int l1), some (.int l2), some (.int l3), some (.int l4), none] [.int s0] SM im Q := by
  refine V.goto (tgt := 95) dX10_voice_70 (by decide) ?_
  exact k
theorem bX10_voice_73 {d : Nat} {b : Nat × Nat}  {im : XI} {Q : Option Value → XS → XI → Prop} {l1 : Int32} {l2 : Int32} {l3 : Int32} {l4 : Int32}  (kt : ¬ l2 = (2 : Int32) → V mX10_voice d b 88 [some (.ref 0), some (.int l1), some (.int l2), some (.int l3), some (.int l4), none] [] SM im Q) (kf : l2 = (2 : Int32) → V mX10_voice d b 78 [some (.ref 0), some (.int l1), some (.int l2), some (.int l3), some (.int l4), none] [] SM im Q) : V mX10_voice d b 73 [some (.ref 0), some (.int l1), some (.int l2), some (.int l3), some (.int l4), none] [] SM im Q := by
  refine V.iload_n dX10_voice_73 rfl rfl ?_
  refine V.iconst (v := 2) dX10_voice_74 (by decide) ?_
  refine V.icmp_ne (tgt := 88) dX10_voice_75 (by decide) (fun h => ?_) (fun h => ?_)
  · exact kt h
  · exact kf h
theorem bX10_voice_78 {d : Nat} {b : Nat × Nat}  {im : XI} {Q : Option Value → XS → XI → Prop} {l1 : Int32} {l2 : Int32} {l3 : Int32} {l4 : Int32} {P : Int32 → XI → Prop}  (hs : SpI mX10_looksAs d [.ref 0, .int l4, .int l3] SM im P) (k : ∀ x2 im2, P x2 im2 → V mX10_voice (d + 1) b 85 [some (.ref 0), some (.int l1), some (.int l2), some (.int l3), some (.int l4), none] [.int x2] SM im2 Q) : V mX10_voice (d + 1) b 78 [some (.ref 0), some (.int l1), some (.int l2), some (.int l3), some (.int l4), none] [] SM im Q := by
  refine V.aload_n dX10_voice_78 rfl rfl ?_
  refine V.iload dX10_voice_79 rfl ?_
  refine V.iload_n dX10_voice_81 rfl rfl ?_
  refine V.cVI rfl vX10_looksAs lkX10_244 wX10_looksAs (ci := 10) rfl (by rfl) (As := [.int l4, .int l3]) rfl rfl rfl dX10_voice_82 hs (fun x2 im2 h2 => ?_)
  exact k x2 im2 h2
theorem bX10_voice_85 {d : Nat} {b : Nat × Nat}  {im : XI} {Q : Option Value → XS → XI → Prop} {l1 : Int32} {l2 : Int32} {l3 : Int32} {l4 : Int32} {s0 : Int32}  (k : V mX10_voice d b 95 [some (.ref 0), some (.int l1), some (.int l2), some (.int l3), some (.int l4), none] [.int s0] SM im Q) : V mX10_voice d b 85 [some (.ref 0), some (.int l1), some (.int l2), some (.int l3), some (.int l4), none] [.int s0] SM im Q := by
  refine V.goto (tgt := 95) dX10_voice_85 (by decide) ?_
  exact k
theorem bX10_voice_88 {d : Nat} {b : Nat × Nat}  {im : XI} {Q : Option Value → XS → XI → Prop} {l1 : Int32} {l2 : Int32} {l3 : Int32} {l4 : Int32} {P : Int32 → XI → Prop}  (hs : SpI mX10_partsAs d [.ref 0, .int l4, .int l3] SM im P) (k : ∀ x2 im2, P x2 im2 → V mX10_voice (d + 1) b 95 [some (.ref 0), some (.int l1), some (.int l2), some (.int l3), some (.int l4), none] [.int x2] SM im2 Q) : V mX10_voice (d + 1) b 88 [some (.ref 0), some (.int l1), some (.int l2), some (.int l3), some (.int l4), none] [] SM im Q := by
  refine V.aload_n dX10_voice_88 rfl rfl ?_
  refine V.iload dX10_voice_89 rfl ?_
  refine V.iload_n dX10_voice_91 rfl rfl ?_
  refine V.cVI rfl vX10_partsAs lkX10_251 wX10_partsAs (ci := 10) rfl (by rfl) (As := [.int l4, .int l3]) rfl rfl rfl dX10_voice_92 hs (fun x2 im2 h2 => ?_)
  exact k x2 im2 h2
theorem bX10_voice_95 {d : Nat} {b : Nat × Nat}  {im : XI} {Q : Option Value → XS → XI → Prop} {l1 : Int32} {l2 : Int32} {l3 : Int32} {l4 : Int32} {s0 : Int32}  (kt : (im 0 15) = 0 → V mX10_voice d b 113 [some (.ref 0), some (.int l1), some (.int l2), some (.int l3), some (.int l4), some (.int s0)] [] SM im Q) (kf : ¬ (im 0 15) = 0 → V mX10_voice d b 104 [some (.ref 0), some (.int l1), some (.int l2), some (.int l3), some (.int l4), some (.int s0)] [] SM im Q) : V mX10_voice d b 95 [some (.ref 0), some (.int l1), some (.int l2), some (.int l3), some (.int l4), none] [.int s0] SM im Q := by
  refine V.istore dX10_voice_95 rfl rfl ?_
  refine V.aload_n dX10_voice_97 rfl rfl ?_
  refine V.getI fX10_247 rfl (by rfl) dX10_voice_98 ?_
  refine V.if_eq (tgt := 113) dX10_voice_101 (by decide) (fun h => ?_) (fun h => ?_)
  · exact kt h
  · exact kf h
theorem bX10_voice_104 {d : Nat} {b : Nat × Nat}  {im : XI} {Q : Option Value → XS → XI → Prop} {l1 : Int32} {l2 : Int32} {l3 : Int32} {l4 : Int32} {l5 : Int32} {P : Int32 → XI → Prop}  (hs : SpI mX10_error d [.ref 0, .int (6 : Int32)] SM im P) (k : ∀ x2 im2, P x2 im2 → V mX10_voice (d + 1) b 110 [some (.ref 0), some (.int l1), some (.int l2), some (.int l3), some (.int l4), some (.int l5)] [.int x2] SM im2 Q) : V mX10_voice (d + 1) b 104 [some (.ref 0), some (.int l1), some (.int l2), some (.int l3), some (.int l4), some (.int l5)] [] SM im Q := by
  refine V.aload_n dX10_voice_104 rfl rfl ?_
  refine V.bipush (v := 6) dX10_voice_105 (by decide) ?_
  refine V.cVI rfl vX10_error lkX10_51 wX10_error (ci := 10) rfl (by rfl) (As := [.int (6 : Int32)]) rfl rfl rfl dX10_voice_107 hs (fun x2 im2 h2 => ?_)
  exact k x2 im2 h2
theorem bX10_voice_110 {d : Nat} {b : Nat × Nat}  {im : XI} {Q : Option Value → XS → XI → Prop} {l1 : Int32} {l2 : Int32} {l3 : Int32} {l4 : Int32} {l5 : Int32} {s0 : Int32}  (k : V mX10_voice d b 115 [some (.ref 0), some (.int l1), some (.int l2), some (.int l3), some (.int l4), some (.int l5)] [.int s0] SM im Q) : V mX10_voice d b 110 [some (.ref 0), some (.int l1), some (.int l2), some (.int l3), some (.int l4), some (.int l5)] [.int s0] SM im Q := by
  refine V.goto (tgt := 115) dX10_voice_110 (by decide) ?_
  exact k
theorem bX10_voice_113 {d : Nat} {b : Nat × Nat}  {im : XI} {Q : Option Value → XS → XI → Prop} {l1 : Int32} {l2 : Int32} {l3 : Int32} {l4 : Int32} {l5 : Int32}  (k : V mX10_voice d b 115 [some (.ref 0), some (.int l1), some (.int l2), some (.int l3), some (.int l4), some (.int l5)] [.int l5] SM im Q) : V mX10_voice d b 113 [some (.ref 0), some (.int l1), some (.int l2), some (.int l3), some (.int l4), some (.int l5)] [] SM im Q := by
  refine V.iload dX10_voice_113 rfl ?_
  exact k
theorem bX10_voice_115 {d : Nat} {b : Nat × Nat}  {im : XI} {Q : Option Value → XS → XI → Prop} {l1 : Int32} {l2 : Int32} {l3 : Int32} {l4 : Int32} {l5 : Int32} {s0 : Int32}  (hq : Q (some (.int s0)) SM im) : V mX10_voice d b 115 [some (.ref 0), some (.int l1), some (.int l2), some (.int l3), some (.int l4), some (.int l5)] [.int s0] SM im Q := by
  exact V.iret rfl dX10_voice_115 hq
theorem bX10_body_0 {d : Nat} {b : Nat × Nat}  {im : XI} {Q : Option Value → XS → XI → Prop} {l1 : Int32} {P : Int32 → XI → Prop}  (hs : SpI mX10_in d [.int l1, .int (0 : Int32), .int ((im 0 12) - (1 : Int32))] SM im P) (k : ∀ x2 im2, P x2 im2 → V mX10_body (d + 1) b 11 [some (.ref 0), some (.int l1)] [.int x2] SM im2 Q) : V mX10_body (d + 1) b 0 [some (.ref 0), some (.int l1)] [] SM im Q := by
  refine V.iload_n dX10_body_0 rfl rfl ?_
  refine V.iconst (v := 0) dX10_body_1 (by decide) ?_
  refine V.aload_n dX10_body_2 rfl rfl ?_
  refine V.getI fX10_222 rfl (by rfl) dX10_body_3 ?_
  refine V.iconst (v := 1) dX10_body_6 (by decide) ?_
  refine V.isub dX10_body_7 ?_
  refine V.cSI rfl vX10_in lkX10_47 sX10_in (As := [.int l1, .int (0 : Int32), .int ((im 0 12) - (1 : Int32))]) rfl rfl rfl dX10_body_8 hs (fun x2 im2 h2 => ?_)
  exact k x2 im2 h2
theorem bX10_body_11 {d : Nat} {b : Nat × Nat}  {im : XI} {Q : Option Value → XS → XI → Prop} {l1 : Int32} {s0 : Int32}  (kt : s0 = 0 → V mX10_body d b 23 [some (.ref 0), some (.int l1)] [] SM im Q) (kf : ¬ s0 = 0 → V mX10_body d b 14 [some (.ref 0), some (.int l1)] [] SM im Q) : V mX10_body d b 11 [some (.ref 0), some (.int l1)] [.int s0] SM im Q := by
  refine V.if_eq (tgt := 23) dX10_body_11 (by decide) (fun h => ?_) (fun h => ?_)
  · exact kt h
  · exact kf h
theorem bX10_body_14 {d : Nat} {b : Nat × Nat}  {im : XI} {Q : Option Value → XS → XI → Prop} {l1 : Int32} {i1 : Nat} (g0 : l1 = nI i1) (g1 : i1 < 30) (k : V mX10_body d b 28 [some (.ref 0), some (.int l1)] [.int (im 8 i1)] SM im Q) : V mX10_body d b 14 [some (.ref 0), some (.int l1)] [] SM im Q := by
  refine V.aload_n dX10_body_14 rfl rfl ?_
  refine V.getR fX10_31 rfl (by rfl) (by rfl) dX10_body_15 ?_
  refine V.iload_n dX10_body_18 rfl rfl ?_
  refine V.iald (i := i1) ⟨by rfl, by rfl⟩ g0 g1 dX10_body_19 ?_
  refine V.goto (tgt := 28) dX10_body_20 (by decide) ?_
  exact k
theorem bX10_body_23 {d : Nat} {b : Nat × Nat}  {im : XI} {Q : Option Value → XS → XI → Prop} {l1 : Int32} {P : Int32 → XI → Prop}  (hs : SpI mX10_error d [.ref 0, .int (2 : Int32)] SM im P) (k : ∀ x2 im2, P x2 im2 → V mX10_body (d + 1) b 28 [some (.ref 0), some (.int l1)] [.int x2] SM im2 Q) : V mX10_body (d + 1) b 23 [some (.ref 0), some (.int l1)] [] SM im Q := by
  refine V.aload_n dX10_body_23 rfl rfl ?_
  refine V.iconst (v := 2) dX10_body_24 (by decide) ?_
  refine V.cVI rfl vX10_error lkX10_51 wX10_error (ci := 10) rfl (by rfl) (As := [.int (2 : Int32)]) rfl rfl rfl dX10_body_25 hs (fun x2 im2 h2 => ?_)
  exact k x2 im2 h2
theorem bX10_body_28 {d : Nat} {b : Nat × Nat}  {im : XI} {Q : Option Value → XS → XI → Prop} {l1 : Int32} {s0 : Int32}  (hq : Q (some (.int s0)) SM im) : V mX10_body d b 28 [some (.ref 0), some (.int l1)] [.int s0] SM im Q := by
  exact V.iret rfl dX10_body_28 hq
theorem bX10_isSheet_0 {d : Nat} {b : Nat × Nat} {S : XS} {im : XI} {Q : Option Value → XS → XI → Prop} {l0 : Int32} {P : Int32 → XI → Prop}  (hs : SpI mX10_in d [.int l0, .int (0 : Int32), .int (3 : Int32)] S im P) (k : ∀ x2 im2, P x2 im2 → V mX10_isSheet (d + 1) b 6 [some (.int l0)] [.int x2] S im2 Q) : V mX10_isSheet (d + 1) b 0 [some (.int l0)] [] S im Q := by
  refine V.iload_n dX10_isSheet_0 rfl rfl ?_
  refine V.iconst (v := 0) dX10_isSheet_1 (by decide) ?_
  refine V.iconst (v := 3) dX10_isSheet_2 (by decide) ?_
  refine V.cSI rfl vX10_in lkX10_47 sX10_in (As := [.int l0, .int (0 : Int32), .int (3 : Int32)]) rfl rfl rfl dX10_isSheet_3 hs (fun x2 im2 h2 => ?_)
  exact k x2 im2 h2
theorem bX10_isSheet_6 {d : Nat} {b : Nat × Nat} {S : XS} {im : XI} {Q : Option Value → XS → XI → Prop} {l0 : Int32} {s0 : Int32} (g0 : s0 = 0 ∨ s0 = 1) (hq : Q (some (.int s0)) S im) : V mX10_isSheet d b 6 [some (.int l0)] [.int s0] S im Q := by
  exact V.zret rfl g0 dX10_isSheet_6 hq
theorem bX10_sheet_0 {d : Nat} {b : Nat × Nat}  {im : XI} {Q : Option Value → XS → XI → Prop} {l1 : Int32} {l2 : Int32} {l3 : Int32} {P : Int32 → XI → Prop}  (hs : SpI mX10_isSheet d [.int l1] SM im P) (k : ∀ x2 im2, P x2 im2 → V mX10_sheet (d + 1) b 4 [some (.ref 0), some (.int l1), some (.int l2), some (.int l3), none] [.int x2] SM im2 Q) : V mX10_sheet (d + 1) b 0 [some (.ref 0), some (.int l1), some (.int l2), some (.int l3), none] [] SM im Q := by
  refine V.iload_n dX10_sheet_0 rfl rfl ?_
  refine V.cSI rfl vX10_isSheet lkX10_254 sX10_isSheet (As := [.int l1]) rfl rfl rfl dX10_sheet_1 hs (fun x2 im2 h2 => ?_)
  exact k x2 im2 h2
theorem bX10_sheet_4 {d : Nat} {b : Nat × Nat}  {im : XI} {Q : Option Value → XS → XI → Prop} {l1 : Int32} {l2 : Int32} {l3 : Int32} {s0 : Int32}  (kt : s0 = 0 → V mX10_sheet d b 29 [some (.ref 0), some (.int l1), some (.int l2), some (.int l3), none] [] SM im Q) (kf : ¬ s0 = 0 → V mX10_sheet d b 7 [some (.ref 0), some (.int l1), some (.int l2), some (.int l3), none] [] SM im Q) : V mX10_sheet d b 4 [some (.ref 0), some (.int l1), some (.int l2), some (.int l3), none] [.int s0] SM im Q := by
  refine V.if_eq (tgt := 29) dX10_sheet_4 (by decide) (fun h => ?_) (fun h => ?_)
  · exact kt h
  · exact kf h
theorem bX10_sheet_7 {d : Nat} {b : Nat × Nat}  {im : XI} {Q : Option Value → XS → XI → Prop} {l1 : Int32} {l2 : Int32} {l3 : Int32}  (kt : l2 = 0 → V mX10_sheet d b 35 [some (.ref 0), some (.int l1), some (.int l2), some (.int l3), none] [] SM im Q) (kf : ¬ l2 = 0 → V mX10_sheet d b 11 [some (.ref 0), some (.int l1), some (.int l2), some (.int l3), none] [] SM im Q) : V mX10_sheet d b 7 [some (.ref 0), some (.int l1), some (.int l2), some (.int l3), none] [] SM im Q := by
  refine V.iload_n dX10_sheet_7 rfl rfl ?_
  refine V.if_eq (tgt := 35) dX10_sheet_8 (by decide) (fun h => ?_) (fun h => ?_)
  · exact kt h
  · exact kf h
theorem bX10_sheet_11 {d : Nat} {b : Nat × Nat}  {im : XI} {Q : Option Value → XS → XI → Prop} {l1 : Int32} {l2 : Int32} {l3 : Int32}  (kt : l2 = (8 : Int32) → V mX10_sheet d b 35 [some (.ref 0), some (.int l1), some (.int l2), some (.int l3), none] [] SM im Q) (kf : ¬ l2 = (8 : Int32) → V mX10_sheet d b 17 [some (.ref 0), some (.int l1), some (.int l2), some (.int l3), none] [] SM im Q) : V mX10_sheet d b 11 [some (.ref 0), some (.int l1), some (.int l2), some (.int l3), none] [] SM im Q := by
  refine V.iload_n dX10_sheet_11 rfl rfl ?_
  refine V.bipush (v := 8) dX10_sheet_12 (by decide) ?_
  refine V.icmp_eq (tgt := 35) dX10_sheet_14 (by decide) (fun h => ?_) (fun h => ?_)
  · exact kt h
  · exact kf h
theorem bX10_sheet_17 {d : Nat} {b : Nat × Nat}  {im : XI} {Q : Option Value → XS → XI → Prop} {l1 : Int32} {l2 : Int32} {l3 : Int32}  (kt : l2 = (16 : Int32) → V mX10_sheet d b 35 [some (.ref 0), some (.int l1), some (.int l2), some (.int l3), none] [] SM im Q) (kf : ¬ l2 = (16 : Int32) → V mX10_sheet d b 23 [some (.ref 0), some (.int l1), some (.int l2), some (.int l3), none] [] SM im Q) : V mX10_sheet d b 17 [some (.ref 0), some (.int l1), some (.int l2), some (.int l3), none] [] SM im Q := by
  refine V.iload_n dX10_sheet_17 rfl rfl ?_
  refine V.bipush (v := 16) dX10_sheet_18 (by decide) ?_
  refine V.icmp_eq (tgt := 35) dX10_sheet_20 (by decide) (fun h => ?_) (fun h => ?_)
  · exact kt h
  · exact kf h
theorem bX10_sheet_23 {d : Nat} {b : Nat × Nat}  {im : XI} {Q : Option Value → XS → XI → Prop} {l1 : Int32} {l2 : Int32} {l3 : Int32}  (kt : l2 = (32 : Int32) → V mX10_sheet d b 35 [some (.ref 0), some (.int l1), some (.int l2), some (.int l3), none] [] SM im Q) (kf : ¬ l2 = (32 : Int32) → V mX10_sheet d b 29 [some (.ref 0), some (.int l1), some (.int l2), some (.int l3), none] [] SM im Q) : V mX10_sheet d b 23 [some (.ref 0), some (.int l1), some (.int l2), some (.int l3), none] [] SM im Q := by
  refine V.iload_n dX10_sheet_23 rfl rfl ?_
  refine V.bipush (v := 32) dX10_sheet_24 (by decide) ?_
  refine V.icmp_eq (tgt := 35) dX10_sheet_26 (by decide) (fun h => ?_) (fun h => ?_)
  · exact kt h
  · exact kf h
theorem bX10_sheet_29 {d : Nat} {b : Nat × Nat}  {im : XI} {Q : Option Value → XS → XI → Prop} {l1 : Int32} {l2 : Int32} {l3 : Int32} {P : Int32 → XI → Prop}  (hs : SpI mX10_error d [.ref 0, .int (1 : Int32)] SM im P) (k : ∀ x2 im2, P x2 im2 → V mX10_sheet (d + 1) b 34 [some (.ref 0), some (.int l1), some (.int l2), some (.int l3), none] [.int x2] SM im2 Q) : V mX10_sheet (d + 1) b 29 [some (.ref 0), some (.int l1), some (.int l2), some (.int l3), none] [] SM im Q := by
  refine V.aload_n dX10_sheet_29 rfl rfl ?_
  refine V.iconst (v := 1) dX10_sheet_30 (by decide) ?_
  refine V.cVI rfl vX10_error lkX10_51 wX10_error (ci := 10) rfl (by rfl) (As := [.int (1 : Int32)]) rfl rfl rfl dX10_sheet_31 hs (fun x2 im2 h2 => ?_)
  exact k x2 im2 h2
theorem bX10_sheet_34 {d : Nat} {b : Nat × Nat}  {im : XI} {Q : Option Value → XS → XI → Prop} {l1 : Int32} {l2 : Int32} {l3 : Int32} {s0 : Int32}  (hq : Q (some (.int s0)) SM im) : V mX10_sheet d b 34 [some (.ref 0), some (.int l1), some (.int l2), some (.int l3), none] [.int s0] SM im Q := by
  exact V.iret rfl dX10_sheet_34 hq
theorem bX10_sheet_35 {d : Nat} {b : Nat × Nat}  {im : XI} {Q : Option Value → XS → XI → Prop} {l1 : Int32} {l2 : Int32} {l3 : Int32}  (kt : l2 = 0 → V mX10_sheet d b 49 [some (.ref 0), some (.int l1), some (.int l2), some (.int l3), none] [] SM im Q) (kf : ¬ l2 = 0 → V mX10_sheet d b 39 [some (.ref 0), some (.int l1), some (.int l2), some (.int l3), none] [] SM im Q) : V mX10_sheet d b 35 [some (.ref 0), some (.int l1), some (.int l2), some (.int l3), none] [] SM im Q := by
  refine V.iload_n dX10_sheet_35 rfl rfl ?_
  refine V.if_eq (tgt := 49) dX10_sheet_36 (by decide) (fun h => ?_) (fun h => ?_)
  · exact kt h
  · exact kf h
theorem bX10_sheet_39 {d : Nat} {b : Nat × Nat}  {im : XI} {Q : Option Value → XS → XI → Prop} {l1 : Int32} {l2 : Int32} {l3 : Int32}  (kt : 0 ≤ l3 → V mX10_sheet d b 49 [some (.ref 0), some (.int l1), some (.int l2), some (.int l3), none] [] SM im Q) (kf : ¬ 0 ≤ l3 → V mX10_sheet d b 43 [some (.ref 0), some (.int l1), some (.int l2), some (.int l3), none] [] SM im Q) : V mX10_sheet d b 39 [some (.ref 0), some (.int l1), some (.int l2), some (.int l3), none] [] SM im Q := by
  refine V.iload_n dX10_sheet_39 rfl rfl ?_
  refine V.if_ge (tgt := 49) dX10_sheet_40 (by decide) (fun h => ?_) (fun h => ?_)
  · exact kt h
  · exact kf h
theorem bX10_sheet_43 {d : Nat} {b : Nat × Nat}  {im : XI} {Q : Option Value → XS → XI → Prop} {l1 : Int32} {l2 : Int32} {l3 : Int32} {P : Int32 → XI → Prop}  (hs : SpI mX10_error d [.ref 0, .int (3 : Int32)] SM im P) (k : ∀ x2 im2, P x2 im2 → V mX10_sheet (d + 1) b 48 [some (.ref 0), some (.int l1), some (.int l2), some (.int l3), none] [.int x2] SM im2 Q) : V mX10_sheet (d + 1) b 43 [some (.ref 0), some (.int l1), some (.int l2), some (.int l3), none] [] SM im Q := by
  refine V.aload_n dX10_sheet_43 rfl rfl ?_
  refine V.iconst (v := 3) dX10_sheet_44 (by decide) ?_
  refine V.cVI rfl vX10_error lkX10_51 wX10_error (ci := 10) rfl (by rfl) (As := [.int (3 : Int32)]) rfl rfl rfl dX10_sheet_45 hs (fun x2 im2 h2 => ?_)
  exact k x2 im2 h2
theorem bX10_sheet_48 {d : Nat} {b : Nat × Nat}  {im : XI} {Q : Option Value → XS → XI → Prop} {l1 : Int32} {l2 : Int32} {l3 : Int32} {s0 : Int32}  (hq : Q (some (.int s0)) SM im) : V mX10_sheet d b 48 [some (.ref 0), some (.int l1), some (.int l2), some (.int l3), none] [.int s0] SM im Q := by
  exact V.iret rfl dX10_sheet_48 hq
theorem bX10_sheet_49 {d : Nat} {b : Nat × Nat}  {im : XI} {Q : Option Value → XS → XI → Prop} {l1 : Int32} {l2 : Int32} {l3 : Int32}  (kt : l2 = 0 → V mX10_sheet d b 65 [some (.ref 0), some (.int l1), some (.int l2), some (.int l3), none] [] SM im Q) (kf : ¬ l2 = 0 → V mX10_sheet d b 53 [some (.ref 0), some (.int l1), some (.int l2), some (.int l3), none] [] SM im Q) : V mX10_sheet d b 49 [some (.ref 0), some (.int l1), some (.int l2), some (.int l3), none] [] SM im Q := by
  refine V.iload_n dX10_sheet_49 rfl rfl ?_
  refine V.if_eq (tgt := 65) dX10_sheet_50 (by decide) (fun h => ?_) (fun h => ?_)
  · exact kt h
  · exact kf h
theorem bX10_sheet_53 {d : Nat} {b : Nat × Nat}  {im : XI} {Q : Option Value → XS → XI → Prop} {l1 : Int32} {l2 : Int32} {l3 : Int32}  (kt : l3 ≤ (24 : Int32) → V mX10_sheet d b 65 [some (.ref 0), some (.int l1), some (.int l2), some (.int l3), none] [] SM im Q) (kf : ¬ l3 ≤ (24 : Int32) → V mX10_sheet d b 59 [some (.ref 0), some (.int l1), some (.int l2), some (.int l3), none] [] SM im Q) : V mX10_sheet d b 53 [some (.ref 0), some (.int l1), some (.int l2), some (.int l3), none] [] SM im Q := by
  refine V.iload_n dX10_sheet_53 rfl rfl ?_
  refine V.bipush (v := 24) dX10_sheet_54 (by decide) ?_
  refine V.icmp_le (tgt := 65) dX10_sheet_56 (by decide) (fun h => ?_) (fun h => ?_)
  · exact kt h
  · exact kf h
theorem bX10_sheet_59 {d : Nat} {b : Nat × Nat}  {im : XI} {Q : Option Value → XS → XI → Prop} {l1 : Int32} {l2 : Int32} {l3 : Int32} {P : Int32 → XI → Prop}  (hs : SpI mX10_error d [.ref 0, .int (1 : Int32)] SM im P) (k : ∀ x2 im2, P x2 im2 → V mX10_sheet (d + 1) b 64 [some (.ref 0), some (.int l1), some (.int l2), some (.int l3), none] [.int x2] SM im2 Q) : V mX10_sheet (d + 1) b 59 [some (.ref 0), some (.int l1), some (.int l2), some (.int l3), none] [] SM im Q := by
  refine V.aload_n dX10_sheet_59 rfl rfl ?_
  refine V.iconst (v := 1) dX10_sheet_60 (by decide) ?_
  refine V.cVI rfl vX10_error lkX10_51 wX10_error (ci := 10) rfl (by rfl) (As := [.int (1 : Int32)]) rfl rfl rfl dX10_sheet_61 hs (fun x2 im2 h2 => ?_)
  exact k x2 im2 h2
theorem bX10_sheet_64 {d : Nat} {b : Nat × Nat}  {im : XI} {Q : Option Value → XS → XI → Prop} {l1 : Int32} {l2 : Int32} {l3 : Int32} {s0 : Int32}  (hq : Q (some (.int s0)) SM im) : V mX10_sheet d b 64 [some (.ref 0), some (.int l1), some (.int l2), some (.int l3), none] [.int s0] SM im Q := by
  exact V.iret rfl dX10_sheet_64 hq
theorem bX10_sheet_65 {d : Nat} {b : Nat × Nat}  {im : XI} {Q : Option Value → XS → XI → Prop} {l1 : Int32} {l2 : Int32} {l3 : Int32} {i1 : Nat} (g0 : l1 = nI i1) (g1 : i1 < 4) (kt : ¬ l2 = 0 → V mX10_sheet d b 85 [some (.ref 0), some (.int l1), some (.int l2), some (.int l3), none] [.int l1, .ref 10] SM (xup im 9 i1 l2) Q) (kf : l2 = 0 → V mX10_sheet d b 81 [some (.ref 0), some (.int l1), some (.int l2), some (.int l3), none] [.int l1, .ref 10] SM (xup im 9 i1 l2) Q) : V mX10_sheet d b 65 [some (.ref 0), some (.int l1), some (.int l2), some (.int l3), none] [] SM im Q := by
  refine V.aload_n dX10_sheet_65 rfl rfl ?_
  refine V.getR fX10_34 rfl (by rfl) (by rfl) dX10_sheet_66 ?_
  refine V.iload_n dX10_sheet_69 rfl rfl ?_
  refine V.iload_n dX10_sheet_70 rfl rfl ?_
  refine V.iast (i := i1) ⟨by rfl, by rfl⟩ g0 g1 dX10_sheet_71 ?_
  refine V.aload_n dX10_sheet_72 rfl rfl ?_
  refine V.getR fX10_37 rfl (by rfl) (by rfl) dX10_sheet_73 ?_
  refine V.iload_n dX10_sheet_76 rfl rfl ?_
  refine V.iload_n dX10_sheet_77 rfl rfl ?_
  refine V.if_ne (tgt := 85) dX10_sheet_78 (by decide) (fun h => ?_) (fun h => ?_)
  · exact kt h
  · exact kf h
theorem bX10_sheet_81 {d : Nat} {b : Nat × Nat}  {im : XI} {Q : Option Value → XS → XI → Prop} {l1 : Int32} {l2 : Int32} {l3 : Int32} {s0 : Nat} {s1 : Int32}  (k : V mX10_sheet d b 86 [some (.ref 0), some (.int l1), some (.int l2), some (.int l3), none] [.int (0 : Int32), .int s1, .ref s0] SM im Q) : V mX10_sheet d b 81 [some (.ref 0), some (.int l1), some (.int l2), some (.int l3), none] [.int s1, .ref s0] SM im Q := by
  refine V.iconst (v := 0) dX10_sheet_81 (by decide) ?_
  refine V.goto (tgt := 86) dX10_sheet_82 (by decide) ?_
  exact k
theorem bX10_sheet_85 {d : Nat} {b : Nat × Nat}  {im : XI} {Q : Option Value → XS → XI → Prop} {l1 : Int32} {l2 : Int32} {l3 : Int32} {s0 : Nat} {s1 : Int32}  (k : V mX10_sheet d b 86 [some (.ref 0), some (.int l1), some (.int l2), some (.int l3), none] [.int l3, .int s1, .ref s0] SM im Q) : V mX10_sheet d b 85 [some (.ref 0), some (.int l1), some (.int l2), some (.int l3), none] [.int s1, .ref s0] SM im Q := by
  refine V.iload_n dX10_sheet_85 rfl rfl ?_
  exact k
theorem bX10_sheet_86 {d : Nat} {b : Nat × Nat}  {im : XI} {Q : Option Value → XS → XI → Prop} {l1 : Int32} {l2 : Int32} {l3 : Int32} {s0 : Nat} {s1 : Int32} {s2 : Int32} {n1 : Nat} {i2 : Nat} (g0 : XA SM s0 n1) (g1 : s1 = nI i2) (g2 : i2 < n1) (k : V mX10_sheet d b 90 [some (.ref 0), some (.int l1), some (.int l2), some (.int l3), some (.int (0 : Int32))] [] SM (xup im s0 i2 s2) Q) : V mX10_sheet d b 86 [some (.ref 0), some (.int l1), some (.int l2), some (.int l3), none] [.int s2, .int s1, .ref s0] SM im Q := by
  refine V.iast (i := i2) g0 g1 g2 dX10_sheet_86 ?_
  refine V.iconst (v := 0) dX10_sheet_87 (by decide) ?_
  refine V.istore dX10_sheet_88 rfl rfl ?_
  exact k
theorem bX10_sheet_90 {d : Nat} {b : Nat × Nat}  {im : XI} {Q : Option Value → XS → XI → Prop} {l1 : Int32} {l2 : Int32} {l3 : Int32} {l4 : Int32}  (kt : (24 : Int32) ≤ l4 → V mX10_sheet d b 116 [some (.ref 0), some (.int l1), some (.int l2), some (.int l3), some (.int l4)] [] SM im Q) (kf : ¬ (24 : Int32) ≤ l4 → V mX10_sheet d b 97 [some (.ref 0), some (.int l1), some (.int l2), some (.int l3), some (.int l4)] [] SM im Q) : V mX10_sheet d b 90 [some (.ref 0), some (.int l1), some (.int l2), some (.int l3), some (.int l4)] [] SM im Q := by
  refine V.iload dX10_sheet_90 rfl ?_
  refine V.bipush (v := 24) dX10_sheet_92 (by decide) ?_
  refine V.icmp_ge (tgt := 116) dX10_sheet_94 (by decide) (fun h => ?_) (fun h => ?_)
  · exact kt h
  · exact kf h
theorem bX10_sheet_97 {d : Nat} {b : Nat × Nat}  {im : XI} {Q : Option Value → XS → XI → Prop} {l1 : Int32} {l2 : Int32} {l3 : Int32} {l4 : Int32} {i1 : Nat} (g0 : (((24 : Int32) * l1) + l4) = nI i1) (g1 : i1 < 96) (k : V mX10_sheet d b 90 [some (.ref 0), some (.int l1), some (.int l2), some (.int l3), some (.int (l4 + (1 : Int32)))] [] SM (xup im 11 i1 (0 : Int32)) Q) : V mX10_sheet d b 97 [some (.ref 0), some (.int l1), some (.int l2), some (.int l3), some (.int l4)] [] SM im Q := by
  refine V.aload_n dX10_sheet_97 rfl rfl ?_
  refine V.getR fX10_40 rfl (by rfl) (by rfl) dX10_sheet_98 ?_
  refine V.bipush (v := 24) dX10_sheet_101 (by decide) ?_
  refine V.iload_n dX10_sheet_103 rfl rfl ?_
  refine V.imul dX10_sheet_104 ?_
  refine V.iload dX10_sheet_105 rfl ?_
  refine V.iadd dX10_sheet_107 ?_
  refine V.iconst (v := 0) dX10_sheet_108 (by decide) ?_
  refine V.iast (i := i1) ⟨by rfl, by rfl⟩ g0 g1 dX10_sheet_109 ?_
  refine V.iinc (v := (l4 + (1 : Int32))) dX10_sheet_110 rfl rfl rfl ?_
  refine V.goto (tgt := 90) dX10_sheet_113 (by decide) ?_
  exact k
theorem bX10_sheet_116 {d : Nat} {b : Nat × Nat}  {im : XI} {Q : Option Value → XS → XI → Prop} {l1 : Int32} {l2 : Int32} {l3 : Int32} {l4 : Int32}  (hq : Q (some (.int (1 : Int32))) SM im) : V mX10_sheet d b 116 [some (.ref 0), some (.int l1), some (.int l2), some (.int l3), some (.int l4)] [] SM im Q := by
  refine V.iconst (v := 1) dX10_sheet_116 (by decide) ?_
  exact V.iret rfl dX10_sheet_117 hq
theorem bX10_put_0 {d : Nat} {b : Nat × Nat}  {im : XI} {Q : Option Value → XS → XI → Prop} {l1 : Int32} {l2 : Int32} {l3 : Int32} {P : Int32 → XI → Prop}  (hs : SpI mX10_isSheet d [.int l1] SM im P) (k : ∀ x2 im2, P x2 im2 → V mX10_put (d + 1) b 4 [some (.ref 0), some (.int l1), some (.int l2), some (.int l3), none] [.int x2] SM im2 Q) : V mX10_put (d + 1) b 0 [some (.ref 0), some (.int l1), some (.int l2), some (.int l3), none] [] SM im Q := by
  refine V.iload_n dX10_put_0 rfl rfl ?_
  refine V.cSI rfl vX10_isSheet lkX10_254 sX10_isSheet (As := [.int l1]) rfl rfl rfl dX10_put_1 hs (fun x2 im2 h2 => ?_)
  exact k x2 im2 h2
theorem bX10_put_4 {d : Nat} {b : Nat × Nat}  {im : XI} {Q : Option Value → XS → XI → Prop} {l1 : Int32} {l2 : Int32} {l3 : Int32} {s0 : Int32}  (kt : ¬ s0 = 0 → V mX10_put d b 13 [some (.ref 0), some (.int l1), some (.int l2), some (.int l3), none] [] SM im Q) (kf : s0 = 0 → V mX10_put d b 7 [some (.ref 0), some (.int l1), some (.int l2), some (.int l3), none] [] SM im Q) : V mX10_put d b 4 [some (.ref 0), some (.int l1), some (.int l2), some (.int l3), none] [.int s0] SM im Q := by
  refine V.if_ne (tgt := 13) dX10_put_4 (by decide) (fun h => ?_) (fun h => ?_)
  · exact kt h
  · exact kf h
theorem bX10_put_7 {d : Nat} {b : Nat × Nat}  {im : XI} {Q : Option Value → XS → XI → Prop} {l1 : Int32} {l2 : Int32} {l3 : Int32} {P : Int32 → XI → Prop}  (hs : SpI mX10_error d [.ref 0, .int (1 : Int32)] SM im P) (k : ∀ x2 im2, P x2 im2 → V mX10_put (d + 1) b 12 [some (.ref 0), some (.int l1), some (.int l2), some (.int l3), none] [.int x2] SM im2 Q) : V mX10_put (d + 1) b 7 [some (.ref 0), some (.int l1), some (.int l2), some (.int l3), none] [] SM im Q := by
  refine V.aload_n dX10_put_7 rfl rfl ?_
  refine V.iconst (v := 1) dX10_put_8 (by decide) ?_
  refine V.cVI rfl vX10_error lkX10_51 wX10_error (ci := 10) rfl (by rfl) (As := [.int (1 : Int32)]) rfl rfl rfl dX10_put_9 hs (fun x2 im2 h2 => ?_)
  exact k x2 im2 h2
theorem bX10_put_12 {d : Nat} {b : Nat × Nat}  {im : XI} {Q : Option Value → XS → XI → Prop} {l1 : Int32} {l2 : Int32} {l3 : Int32} {s0 : Int32}  (hq : Q (some (.int s0)) SM im) : V mX10_put d b 12 [some (.ref 0), some (.int l1), some (.int l2), some (.int l3), none] [.int s0] SM im Q := by
  exact V.iret rfl dX10_put_12 hq
theorem bX10_put_13 {d : Nat} {b : Nat × Nat}  {im : XI} {Q : Option Value → XS → XI → Prop} {l1 : Int32} {l2 : Int32} {l3 : Int32} {i1 : Nat} (g0 : l1 = nI i1) (g1 : i1 < 4) (kt : ¬ (im 9 i1) = 0 → V mX10_put d b 28 [some (.ref 0), some (.int l1), some (.int l2), some (.int l3), none] [] SM im Q) (kf : (im 9 i1) = 0 → V mX10_put d b 22 [some (.ref 0), some (.int l1), some (.int l2), some (.int l3), none] [] SM im Q) : V mX10_put d b 13 [some (.ref 0), some (.int l1), some (.int l2), some (.int l3), none] [] SM im Q := by
  refine V.aload_n dX10_put_13 rfl rfl ?_
  refine V.getR fX10_34 rfl (by rfl) (by rfl) dX10_put_14 ?_
  refine V.iload_n dX10_put_17 rfl rfl ?_
  refine V.iald (i := i1) ⟨by rfl, by rfl⟩ g0 g1 dX10_put_18 ?_
  refine V.if_ne (tgt := 28) dX10_put_19 (by decide) (fun h => ?_) (fun h => ?_)
  · exact kt h
  · exact kf h
theorem bX10_put_22 {d : Nat} {b : Nat × Nat}  {im : XI} {Q : Option Value → XS → XI → Prop} {l1 : Int32} {l2 : Int32} {l3 : Int32} {P : Int32 → XI → Prop}  (hs : SpI mX10_error d [.ref 0, .int (2 : Int32)] SM im P) (k : ∀ x2 im2, P x2 im2 → V mX10_put (d + 1) b 27 [some (.ref 0), some (.int l1), some (.int l2), some (.int l3), none] [.int x2] SM im2 Q) : V mX10_put (d + 1) b 22 [some (.ref 0), some (.int l1), some (.int l2), some (.int l3), none] [] SM im Q := by
  refine V.aload_n dX10_put_22 rfl rfl ?_
  refine V.iconst (v := 2) dX10_put_23 (by decide) ?_
  refine V.cVI rfl vX10_error lkX10_51 wX10_error (ci := 10) rfl (by rfl) (As := [.int (2 : Int32)]) rfl rfl rfl dX10_put_24 hs (fun x2 im2 h2 => ?_)
  exact k x2 im2 h2
theorem bX10_put_27 {d : Nat} {b : Nat × Nat}  {im : XI} {Q : Option Value → XS → XI → Prop} {l1 : Int32} {l2 : Int32} {l3 : Int32} {s0 : Int32}  (hq : Q (some (.int s0)) SM im) : V mX10_put d b 27 [some (.ref 0), some (.int l1), some (.int l2), some (.int l3), none] [.int s0] SM im Q := by
  exact V.iret rfl dX10_put_27 hq
theorem bX10_put_28 {d : Nat} {b : Nat × Nat}  {im : XI} {Q : Option Value → XS → XI → Prop} {l1 : Int32} {l2 : Int32} {l3 : Int32} {i1 : Nat} {P : Int32 → XI → Prop} (g0 : l1 = nI i1) (g1 : i1 < 4) (hs : SpI mX10_in d [.int l2, .int (0 : Int32), .int ((im 10 i1) - (1 : Int32))] SM im P) (k : ∀ x2 im2, P x2 im2 → V mX10_put (d + 1) b 41 [some (.ref 0), some (.int l1), some (.int l2), some (.int l3), none] [.int x2] SM im2 Q) : V mX10_put (d + 1) b 28 [some (.ref 0), some (.int l1), some (.int l2), some (.int l3), none] [] SM im Q := by
  refine V.iload_n dX10_put_28 rfl rfl ?_
  refine V.iconst (v := 0) dX10_put_29 (by decide) ?_
  refine V.aload_n dX10_put_30 rfl rfl ?_
  refine V.getR fX10_37 rfl (by rfl) (by rfl) dX10_put_31 ?_
  refine V.iload_n dX10_put_34 rfl rfl ?_
  refine V.iald (i := i1) ⟨by rfl, by rfl⟩ g0 g1 dX10_put_35 ?_
  refine V.iconst (v := 1) dX10_put_36 (by decide) ?_
  refine V.isub dX10_put_37 ?_
  refine V.cSI rfl vX10_in lkX10_47 sX10_in (As := [.int l2, .int (0 : Int32), .int ((im 10 i1) - (1 : Int32))]) rfl rfl rfl dX10_put_38 hs (fun x2 im2 h2 => ?_)
  exact k x2 im2 h2
theorem bX10_put_41 {d : Nat} {b : Nat × Nat}  {im : XI} {Q : Option Value → XS → XI → Prop} {l1 : Int32} {l2 : Int32} {l3 : Int32} {s0 : Int32}  (kt : ¬ s0 = 0 → V mX10_put d b 50 [some (.ref 0), some (.int l1), some (.int l2), some (.int l3), none] [] SM im Q) (kf : s0 = 0 → V mX10_put d b 44 [some (.ref 0), some (.int l1), some (.int l2), some (.int l3), none] [] SM im Q) : V mX10_put d b 41 [some (.ref 0), some (.int l1), some (.int l2), some (.int l3), none] [.int s0] SM im Q := by
  refine V.if_ne (tgt := 50) dX10_put_41 (by decide) (fun h => ?_) (fun h => ?_)
  · exact kt h
  · exact kf h
theorem bX10_put_44 {d : Nat} {b : Nat × Nat}  {im : XI} {Q : Option Value → XS → XI → Prop} {l1 : Int32} {l2 : Int32} {l3 : Int32} {P : Int32 → XI → Prop}  (hs : SpI mX10_error d [.ref 0, .int (1 : Int32)] SM im P) (k : ∀ x2 im2, P x2 im2 → V mX10_put (d + 1) b 49 [some (.ref 0), some (.int l1), some (.int l2), some (.int l3), none] [.int x2] SM im2 Q) : V mX10_put (d + 1) b 44 [some (.ref 0), some (.int l1), some (.int l2), some (.int l3), none] [] SM im Q := by
  refine V.aload_n dX10_put_44 rfl rfl ?_
  refine V.iconst (v := 1) dX10_put_45 (by decide) ?_
  refine V.cVI rfl vX10_error lkX10_51 wX10_error (ci := 10) rfl (by rfl) (As := [.int (1 : Int32)]) rfl rfl rfl dX10_put_46 hs (fun x2 im2 h2 => ?_)
  exact k x2 im2 h2
theorem bX10_put_49 {d : Nat} {b : Nat × Nat}  {im : XI} {Q : Option Value → XS → XI → Prop} {l1 : Int32} {l2 : Int32} {l3 : Int32} {s0 : Int32}  (hq : Q (some (.int s0)) SM im) : V mX10_put d b 49 [some (.ref 0), some (.int l1), some (.int l2), some (.int l3), none] [.int s0] SM im Q := by
  exact V.iret rfl dX10_put_49 hq
theorem bX10_put_50 {d : Nat} {b : Nat × Nat}  {im : XI} {Q : Option Value → XS → XI → Prop} {l1 : Int32} {l2 : Int32} {l3 : Int32} {i1 : Nat} {i2 : Nat} (g0 : l1 = nI i1) (g1 : i1 < 4) (g2 : (((24 : Int32) * l1) + l2) = nI i2) (g3 : i2 < 96) (hq : Q (some (.int (1 : Int32))) SM (xup im 11 i2 ((l3 <<< (((32 : Int32) - (im 9 i1)) &&& 31)) >>> (((32 : Int32) - (im 9 i1)) &&& 31)))) : V mX10_put d b 50 [some (.ref 0), some (.int l1), some (.int l2), some (.int l3), none] [] SM im Q := by
  refine V.bipush (v := 32) dX10_put_50 (by decide) ?_
  refine V.aload_n dX10_put_52 rfl rfl ?_
  refine V.getR fX10_34 rfl (by rfl) (by rfl) dX10_put_53 ?_
  refine V.iload_n dX10_put_56 rfl rfl ?_
  refine V.iald (i := i1) ⟨by rfl, by rfl⟩ g0 g1 dX10_put_57 ?_
  refine V.isub dX10_put_58 ?_
  refine V.istore dX10_put_59 rfl rfl ?_
  refine V.aload_n dX10_put_61 rfl rfl ?_
  refine V.getR fX10_40 rfl (by rfl) (by rfl) dX10_put_62 ?_
  refine V.bipush (v := 24) dX10_put_65 (by decide) ?_
  refine V.iload_n dX10_put_67 rfl rfl ?_
  refine V.imul dX10_put_68 ?_
  refine V.iload_n dX10_put_69 rfl rfl ?_
  refine V.iadd dX10_put_70 ?_
  refine V.iload_n dX10_put_71 rfl rfl ?_
  refine V.iload dX10_put_72 rfl ?_
  refine V.ishl dX10_put_74 ?_
  refine V.iload dX10_put_75 rfl ?_
  refine V.ishr dX10_put_77 ?_
  refine V.iast (i := i2) ⟨by rfl, by rfl⟩ g2 g3 dX10_put_78 ?_
  refine V.iconst (v := 1) dX10_put_79 (by decide) ?_
  exact V.iret rfl dX10_put_80 hq
theorem bX10_move_0 {d : Nat} {b : Nat × Nat}  {im : XI} {Q : Option Value → XS → XI → Prop} {l1 : Int32} {l2 : Int32} {l3 : Int32} {l4 : Int32} {l5 : Int32} {P : Int32 → XI → Prop}  (hs : SpI mX10_isSheet d [.int l1] SM im P) (k : ∀ x2 im2, P x2 im2 → V mX10_move (d + 1) b 4 [some (.ref 0), some (.int l1), some (.int l2), some (.int l3), some (.int l4), some (.int l5), none] [.int x2] SM im2 Q) : V mX10_move (d + 1) b 0 [some (.ref 0), some (.int l1), some (.int l2), some (.int l3), some (.int l4), some (.int l5), none] [] SM im Q := by
  refine V.iload_n dX10_move_0 rfl rfl ?_
  refine V.cSI rfl vX10_isSheet lkX10_254 sX10_isSheet (As := [.int l1]) rfl rfl rfl dX10_move_1 hs (fun x2 im2 h2 => ?_)
  exact k x2 im2 h2
theorem bX10_move_4 {d : Nat} {b : Nat × Nat}  {im : XI} {Q : Option Value → XS → XI → Prop} {l1 : Int32} {l2 : Int32} {l3 : Int32} {l4 : Int32} {l5 : Int32} {s0 : Int32}  (kt : s0 = 0 → V mX10_move d b 14 [some (.ref 0), some (.int l1), some (.int l2), some (.int l3), some (.int l4), some (.int l5), none] [] SM im Q) (kf : ¬ s0 = 0 → V mX10_move d b 7 [some (.ref 0), some (.int l1), some (.int l2), some (.int l3), some (.int l4), some (.int l5), none] [] SM im Q) : V mX10_move d b 4 [some (.ref 0), some (.int l1), some (.int l2), some (.int l3), some (.int l4), some (.int l5), none] [.int s0] SM im Q := by
  refine V.if_eq (tgt := 14) dX10_move_4 (by decide) (fun h => ?_) (fun h => ?_)
  · exact kt h
  · exact kf h
theorem bX10_move_7 {d : Nat} {b : Nat × Nat}  {im : XI} {Q : Option Value → XS → XI → Prop} {l1 : Int32} {l2 : Int32} {l3 : Int32} {l4 : Int32} {l5 : Int32} {P : Int32 → XI → Prop}  (hs : SpI mX10_isSheet d [.int l3] SM im P) (k : ∀ x2 im2, P x2 im2 → V mX10_move (d + 1) b 11 [some (.ref 0), some (.int l1), some (.int l2), some (.int l3), some (.int l4), some (.int l5), none] [.int x2] SM im2 Q) : V mX10_move (d + 1) b 7 [some (.ref 0), some (.int l1), some (.int l2), some (.int l3), some (.int l4), some (.int l5), none] [] SM im Q := by
  refine V.iload_n dX10_move_7 rfl rfl ?_
  refine V.cSI rfl vX10_isSheet lkX10_254 sX10_isSheet (As := [.int l3]) rfl rfl rfl dX10_move_8 hs (fun x2 im2 h2 => ?_)
  exact k x2 im2 h2
theorem bX10_move_11 {d : Nat} {b : Nat × Nat}  {im : XI} {Q : Option Value → XS → XI → Prop} {l1 : Int32} {l2 : Int32} {l3 : Int32} {l4 : Int32} {l5 : Int32} {s0 : Int32}  (kt : ¬ s0 = 0 → V mX10_move d b 20 [some (.ref 0), some (.int l1), some (.int l2), some (.int l3), some (.int l4), some (.int l5), none] [] SM im Q) (kf : s0 = 0 → V mX10_move d b 14 [some (.ref 0), some (.int l1), some (.int l2), some (.int l3), some (.int l4), some (.int l5), none] [] SM im Q) : V mX10_move d b 11 [some (.ref 0), some (.int l1), some (.int l2), some (.int l3), some (.int l4), some (.int l5), none] [.int s0] SM im Q := by
  refine V.if_ne (tgt := 20) dX10_move_11 (by decide) (fun h => ?_) (fun h => ?_)
  · exact kt h
  · exact kf h
theorem bX10_move_14 {d : Nat} {b : Nat × Nat}  {im : XI} {Q : Option Value → XS → XI → Prop} {l1 : Int32} {l2 : Int32} {l3 : Int32} {l4 : Int32} {l5 : Int32} {P : Int32 → XI → Prop}  (hs : SpI mX10_error d [.ref 0, .int (1 : Int32)] SM im P) (k : ∀ x2 im2, P x2 im2 → V mX10_move (d + 1) b 19 [some (.ref 0), some (.int l1), some (.int l2), some (.int l3), some (.int l4), some (.int l5), none] [.int x2] SM im2 Q) : V mX10_move (d + 1) b 14 [some (.ref 0), some (.int l1), some (.int l2), some (.int l3), some (.int l4), some (.int l5), none] [] SM im Q := by
  refine V.aload_n dX10_move_14 rfl rfl ?_
  refine V.iconst (v := 1) dX10_move_15 (by decide) ?_
  refine V.cVI rfl vX10_error lkX10_51 wX10_error (ci := 10) rfl (by rfl) (As := [.int (1 : Int32)]) rfl rfl rfl dX10_move_16 hs (fun x2 im2 h2 => ?_)
  exact k x2 im2 h2
theorem bX10_move_19 {d : Nat} {b : Nat × Nat}  {im : XI} {Q : Option Value → XS → XI → Prop} {l1 : Int32} {l2 : Int32} {l3 : Int32} {l4 : Int32} {l5 : Int32} {s0 : Int32}  (hq : Q (some (.int s0)) SM im) : V mX10_move d b 19 [some (.ref 0), some (.int l1), some (.int l2), some (.int l3), some (.int l4), some (.int l5), none] [.int s0] SM im Q := by
  exact V.iret rfl dX10_move_19 hq
theorem bX10_move_20 {d : Nat} {b : Nat × Nat}  {im : XI} {Q : Option Value → XS → XI → Prop} {l1 : Int32} {l2 : Int32} {l3 : Int32} {l4 : Int32} {l5 : Int32} {i1 : Nat} (g0 : l1 = nI i1) (g1 : i1 < 4) (kt : (im 9 i1) = 0 → V mX10_move d b 38 [some (.ref 0), some (.int l1), some (.int l2), some (.int l3), some (.int l4), some (.int l5), none] [] SM im Q) (kf : ¬ (im 9 i1) = 0 → V mX10_move d b 29 [some (.ref 0), some (.int l1), some (.int l2), some (.int l3), some (.int l4), some (.int l5), none] [] SM im Q) : V mX10_move d b 20 [some (.ref 0), some (.int l1), some (.int l2), some (.int l3), some (.int l4), some (.int l5), none] [] SM im Q := by
  refine V.aload_n dX10_move_20 rfl rfl ?_
  refine V.getR fX10_34 rfl (by rfl) (by rfl) dX10_move_21 ?_
  refine V.iload_n dX10_move_24 rfl rfl ?_
  refine V.iald (i := i1) ⟨by rfl, by rfl⟩ g0 g1 dX10_move_25 ?_
  refine V.if_eq (tgt := 38) dX10_move_26 (by decide) (fun h => ?_) (fun h => ?_)
  · exact kt h
  · exact kf h
theorem bX10_move_29 {d : Nat} {b : Nat × Nat}  {im : XI} {Q : Option Value → XS → XI → Prop} {l1 : Int32} {l2 : Int32} {l3 : Int32} {l4 : Int32} {l5 : Int32} {i1 : Nat} (g0 : l3 = nI i1) (g1 : i1 < 4) (kt : ¬ (im 9 i1) = 0 → V mX10_move d b 44 [some (.ref 0), some (.int l1), some (.int l2), some (.int l3), some (.int l4), some (.int l5), none] [] SM im Q) (kf : (im 9 i1) = 0 → V mX10_move d b 38 [some (.ref 0), some (.int l1), some (.int l2), some (.int l3), some (.int l4), some (.int l5), none] [] SM im Q) : V mX10_move d b 29 [some (.ref 0), some (.int l1), some (.int l2), some (.int l3), some (.int l4), some (.int l5), none] [] SM im Q := by
  refine V.aload_n dX10_move_29 rfl rfl ?_
  refine V.getR fX10_34 rfl (by rfl) (by rfl) dX10_move_30 ?_
  refine V.iload_n dX10_move_33 rfl rfl ?_
  refine V.iald (i := i1) ⟨by rfl, by rfl⟩ g0 g1 dX10_move_34 ?_
  refine V.if_ne (tgt := 44) dX10_move_35 (by decide) (fun h => ?_) (fun h => ?_)
  · exact kt h
  · exact kf h
theorem bX10_move_38 {d : Nat} {b : Nat × Nat}  {im : XI} {Q : Option Value → XS → XI → Prop} {l1 : Int32} {l2 : Int32} {l3 : Int32} {l4 : Int32} {l5 : Int32} {P : Int32 → XI → Prop}  (hs : SpI mX10_error d [.ref 0, .int (2 : Int32)] SM im P) (k : ∀ x2 im2, P x2 im2 → V mX10_move (d + 1) b 43 [some (.ref 0), some (.int l1), some (.int l2), some (.int l3), some (.int l4), some (.int l5), none] [.int x2] SM im2 Q) : V mX10_move (d + 1) b 38 [some (.ref 0), some (.int l1), some (.int l2), some (.int l3), some (.int l4), some (.int l5), none] [] SM im Q := by
  refine V.aload_n dX10_move_38 rfl rfl ?_
  refine V.iconst (v := 2) dX10_move_39 (by decide) ?_
  refine V.cVI rfl vX10_error lkX10_51 wX10_error (ci := 10) rfl (by rfl) (As := [.int (2 : Int32)]) rfl rfl rfl dX10_move_40 hs (fun x2 im2 h2 => ?_)
  exact k x2 im2 h2
theorem bX10_move_43 {d : Nat} {b : Nat × Nat}  {im : XI} {Q : Option Value → XS → XI → Prop} {l1 : Int32} {l2 : Int32} {l3 : Int32} {l4 : Int32} {l5 : Int32} {s0 : Int32}  (hq : Q (some (.int s0)) SM im) : V mX10_move d b 43 [some (.ref 0), some (.int l1), some (.int l2), some (.int l3), some (.int l4), some (.int l5), none] [.int s0] SM im Q := by
  exact V.iret rfl dX10_move_43 hq
theorem bX10_move_44 {d : Nat} {b : Nat × Nat}  {im : XI} {Q : Option Value → XS → XI → Prop} {l1 : Int32} {l2 : Int32} {l3 : Int32} {l4 : Int32} {l5 : Int32} {i1 : Nat} {i2 : Nat} (g0 : l1 = nI i1) (g1 : i1 < 4) (g2 : l3 = nI i2) (g3 : i2 < 4) (kt : (im 9 i1) = (im 9 i2) → V mX10_move d b 65 [some (.ref 0), some (.int l1), some (.int l2), some (.int l3), some (.int l4), some (.int l5), none] [] SM im Q) (kf : ¬ (im 9 i1) = (im 9 i2) → V mX10_move d b 59 [some (.ref 0), some (.int l1), some (.int l2), some (.int l3), some (.int l4), some (.int l5), none] [] SM im Q) : V mX10_move d b 44 [some (.ref 0), some (.int l1), some (.int l2), some (.int l3), some (.int l4), some (.int l5), none] [] SM im Q := by
  refine V.aload_n dX10_move_44 rfl rfl ?_
  refine V.getR fX10_34 rfl (by rfl) (by rfl) dX10_move_45 ?_
  refine V.iload_n dX10_move_48 rfl rfl ?_
  refine V.iald (i := i1) ⟨by rfl, by rfl⟩ g0 g1 dX10_move_49 ?_
  refine V.aload_n dX10_move_50 rfl rfl ?_
  refine V.getR fX10_34 rfl (by rfl) (by rfl) dX10_move_51 ?_
  refine V.iload_n dX10_move_54 rfl rfl ?_
  refine V.iald (i := i2) ⟨by rfl, by rfl⟩ g2 g3 dX10_move_55 ?_
  refine V.icmp_eq (tgt := 65) dX10_move_56 (by decide) (fun h => ?_) (fun h => ?_)
  · exact kt h
  · exact kf h
theorem bX10_move_59 {d : Nat} {b : Nat × Nat}  {im : XI} {Q : Option Value → XS → XI → Prop} {l1 : Int32} {l2 : Int32} {l3 : Int32} {l4 : Int32} {l5 : Int32} {P : Int32 → XI → Prop}  (hs : SpI mX10_error d [.ref 0, .int (5 : Int32)] SM im P) (k : ∀ x2 im2, P x2 im2 → V mX10_move (d + 1) b 64 [some (.ref 0), some (.int l1), some (.int l2), some (.int l3), some (.int l4), some (.int l5), none] [.int x2] SM im2 Q) : V mX10_move (d + 1) b 59 [some (.ref 0), some (.int l1), some (.int l2), some (.int l3), some (.int l4), some (.int l5), none] [] SM im Q := by
  refine V.aload_n dX10_move_59 rfl rfl ?_
  refine V.iconst (v := 5) dX10_move_60 (by decide) ?_
  refine V.cVI rfl vX10_error lkX10_51 wX10_error (ci := 10) rfl (by rfl) (As := [.int (5 : Int32)]) rfl rfl rfl dX10_move_61 hs (fun x2 im2 h2 => ?_)
  exact k x2 im2 h2
theorem bX10_move_64 {d : Nat} {b : Nat × Nat}  {im : XI} {Q : Option Value → XS → XI → Prop} {l1 : Int32} {l2 : Int32} {l3 : Int32} {l4 : Int32} {l5 : Int32} {s0 : Int32}  (hq : Q (some (.int s0)) SM im) : V mX10_move d b 64 [some (.ref 0), some (.int l1), some (.int l2), some (.int l3), some (.int l4), some (.int l5), none] [.int s0] SM im Q := by
  exact V.iret rfl dX10_move_64 hq
theorem bX10_move_65 {d : Nat} {b : Nat × Nat}  {im : XI} {Q : Option Value → XS → XI → Prop} {l1 : Int32} {l2 : Int32} {l3 : Int32} {l4 : Int32} {l5 : Int32}  (kt : l5 < 0 → V mX10_move d b 106 [some (.ref 0), some (.int l1), some (.int l2), some (.int l3), some (.int l4), some (.int l5), none] [] SM im Q) (kf : ¬ l5 < 0 → V mX10_move d b 70 [some (.ref 0), some (.int l1), some (.int l2), some (.int l3), some (.int l4), some (.int l5), none] [] SM im Q) : V mX10_move d b 65 [some (.ref 0), some (.int l1), some (.int l2), some (.int l3), some (.int l4), some (.int l5), none] [] SM im Q := by
  refine V.iload dX10_move_65 rfl ?_
  refine V.if_lt (tgt := 106) dX10_move_67 (by decide) (fun h => ?_) (fun h => ?_)
  · exact kt h
  · exact kf h
theorem bX10_move_70 {d : Nat} {b : Nat × Nat}  {im : XI} {Q : Option Value → XS → XI → Prop} {l1 : Int32} {l2 : Int32} {l3 : Int32} {l4 : Int32} {l5 : Int32}  (kt : l2 < 0 → V mX10_move d b 106 [some (.ref 0), some (.int l1), some (.int l2), some (.int l3), some (.int l4), some (.int l5), none] [] SM im Q) (kf : ¬ l2 < 0 → V mX10_move d b 74 [some (.ref 0), some (.int l1), some (.int l2), some (.int l3), some (.int l4), some (.int l5), none] [] SM im Q) : V mX10_move d b 70 [some (.ref 0), some (.int l1), some (.int l2), some (.int l3), some (.int l4), some (.int l5), none] [] SM im Q := by
  refine V.iload_n dX10_move_70 rfl rfl ?_
  refine V.if_lt (tgt := 106) dX10_move_71 (by decide) (fun h => ?_) (fun h => ?_)
  · exact kt h
  · exact kf h
theorem bX10_move_74 {d : Nat} {b : Nat × Nat}  {im : XI} {Q : Option Value → XS → XI → Prop} {l1 : Int32} {l2 : Int32} {l3 : Int32} {l4 : Int32} {l5 : Int32}  (kt : l4 < 0 → V mX10_move d b 106 [some (.ref 0), some (.int l1), some (.int l2), some (.int l3), some (.int l4), some (.int l5), none] [] SM im Q) (kf : ¬ l4 < 0 → V mX10_move d b 79 [some (.ref 0), some (.int l1), some (.int l2), some (.int l3), some (.int l4), some (.int l5), none] [] SM im Q) : V mX10_move d b 74 [some (.ref 0), some (.int l1), some (.int l2), some (.int l3), some (.int l4), some (.int l5), none] [] SM im Q := by
  refine V.iload dX10_move_74 rfl ?_
  refine V.if_lt (tgt := 106) dX10_move_76 (by decide) (fun h => ?_) (fun h => ?_)
  · exact kt h
  · exact kf h
theorem bX10_move_79 {d : Nat} {b : Nat × Nat}  {im : XI} {Q : Option Value → XS → XI → Prop} {l1 : Int32} {l2 : Int32} {l3 : Int32} {l4 : Int32} {l5 : Int32} {i1 : Nat} (g0 : l1 = nI i1) (g1 : i1 < 4) (kt : ((im 10 i1) - l5) < l2 → V mX10_move d b 106 [some (.ref 0), some (.int l1), some (.int l2), some (.int l3), some (.int l4), some (.int l5), none] [] SM im Q) (kf : ¬ ((im 10 i1) - l5) < l2 → V mX10_move d b 92 [some (.ref 0), some (.int l1), some (.int l2), some (.int l3), some (.int l4), some (.int l5), none] [] SM im Q) : V mX10_move d b 79 [some (.ref 0), some (.int l1), some (.int l2), some (.int l3), some (.int l4), some (.int l5), none] [] SM im Q := by
  refine V.iload_n dX10_move_79 rfl rfl ?_
  refine V.aload_n dX10_move_80 rfl rfl ?_
  refine V.getR fX10_37 rfl (by rfl) (by rfl) dX10_move_81 ?_
  refine V.iload_n dX10_move_84 rfl rfl ?_
  refine V.iald (i := i1) ⟨by rfl, by rfl⟩ g0 g1 dX10_move_85 ?_
  refine V.iload dX10_move_86 rfl ?_
  refine V.isub dX10_move_88 ?_
  refine V.icmp_gt (tgt := 106) dX10_move_89 (by decide) (fun h => ?_) (fun h => ?_)
  · exact kt h
  · exact kf h
theorem bX10_move_92 {d : Nat} {b : Nat × Nat}  {im : XI} {Q : Option Value → XS → XI → Prop} {l1 : Int32} {l2 : Int32} {l3 : Int32} {l4 : Int32} {l5 : Int32} {i1 : Nat} (g0 : l3 = nI i1) (g1 : i1 < 4) (kt : l4 ≤ ((im 10 i1) - l5) → V mX10_move d b 112 [some (.ref 0), some (.int l1), some (.int l2), some (.int l3), some (.int l4), some (.int l5), none] [] SM im Q) (kf : ¬ l4 ≤ ((im 10 i1) - l5) → V mX10_move d b 106 [some (.ref 0), some (.int l1), some (.int l2), some (.int l3), some (.int l4), some (.int l5), none] [] SM im Q) : V mX10_move d b 92 [some (.ref 0), some (.int l1), some (.int l2), some (.int l3), some (.int l4), some (.int l5), none] [] SM im Q := by
  refine V.iload dX10_move_92 rfl ?_
  refine V.aload_n dX10_move_94 rfl rfl ?_
  refine V.getR fX10_37 rfl (by rfl) (by rfl) dX10_move_95 ?_
  refine V.iload_n dX10_move_98 rfl rfl ?_
  refine V.iald (i := i1) ⟨by rfl, by rfl⟩ g0 g1 dX10_move_99 ?_
  refine V.iload dX10_move_100 rfl ?_
  refine V.isub dX10_move_102 ?_
  refine V.icmp_le (tgt := 112) dX10_move_103 (by decide) (fun h => ?_) (fun h => ?_)
  · exact kt h
  · exact kf h
theorem bX10_move_106 {d : Nat} {b : Nat × Nat}  {im : XI} {Q : Option Value → XS → XI → Prop} {l1 : Int32} {l2 : Int32} {l3 : Int32} {l4 : Int32} {l5 : Int32} {P : Int32 → XI → Prop}  (hs : SpI mX10_error d [.ref 0, .int (1 : Int32)] SM im P) (k : ∀ x2 im2, P x2 im2 → V mX10_move (d + 1) b 111 [some (.ref 0), some (.int l1), some (.int l2), some (.int l3), some (.int l4), some (.int l5), none] [.int x2] SM im2 Q) : V mX10_move (d + 1) b 106 [some (.ref 0), some (.int l1), some (.int l2), some (.int l3), some (.int l4), some (.int l5), none] [] SM im Q := by
  refine V.aload_n dX10_move_106 rfl rfl ?_
  refine V.iconst (v := 1) dX10_move_107 (by decide) ?_
  refine V.cVI rfl vX10_error lkX10_51 wX10_error (ci := 10) rfl (by rfl) (As := [.int (1 : Int32)]) rfl rfl rfl dX10_move_108 hs (fun x2 im2 h2 => ?_)
  exact k x2 im2 h2
theorem bX10_move_111 {d : Nat} {b : Nat × Nat}  {im : XI} {Q : Option Value → XS → XI → Prop} {l1 : Int32} {l2 : Int32} {l3 : Int32} {l4 : Int32} {l5 : Int32} {s0 : Int32}  (hq : Q (some (.int s0)) SM im) : V mX10_move d b 111 [some (.ref 0), some (.int l1), some (.int l2), some (.int l3), some (.int l4), some (.int l5), none] [.int s0] SM im Q := by
  exact V.iret rfl dX10_move_111 hq
theorem bX10_move_112 {d : Nat} {b : Nat × Nat}  {im : XI} {Q : Option Value → XS → XI → Prop} {l1 : Int32} {l2 : Int32} {l3 : Int32} {l4 : Int32} {l5 : Int32}  (k : V mX10_move d b 115 [some (.ref 0), some (.int l1), some (.int l2), some (.int l3), some (.int l4), some (.int l5), some (.int (0 : Int32))] [] SM im Q) : V mX10_move d b 112 [some (.ref 0), some (.int l1), some (.int l2), some (.int l3), some (.int l4), some (.int l5), none] [] SM im Q := by
  refine V.iconst (v := 0) dX10_move_112 (by decide) ?_
  refine V.istore dX10_move_113 rfl rfl ?_
  exact k
theorem bX10_move_115 {d : Nat} {b : Nat × Nat}  {im : XI} {Q : Option Value → XS → XI → Prop} {l1 : Int32} {l2 : Int32} {l3 : Int32} {l4 : Int32} {l5 : Int32} {l6 : Int32}  (kt : l5 ≤ l6 → V mX10_move d b 149 [some (.ref 0), some (.int l1), some (.int l2), some (.int l3), some (.int l4), some (.int l5), some (.int l6)] [] SM im Q) (kf : ¬ l5 ≤ l6 → V mX10_move d b 122 [some (.ref 0), some (.int l1), some (.int l2), some (.int l3), some (.int l4), some (.int l5), some (.int l6)] [] SM im Q) : V mX10_move d b 115 [some (.ref 0), some (.int l1), some (.int l2), some (.int l3), some (.int l4), some (.int l5), some (.int l6)] [] SM im Q := by
  refine V.iload dX10_move_115 rfl ?_
  refine V.iload dX10_move_117 rfl ?_
  refine V.icmp_ge (tgt := 149) dX10_move_119 (by decide) (fun h => ?_) (fun h => ?_)
  · exact kt h
  · exact kf h
theorem bX10_move_122 {d : Nat} {b : Nat × Nat}  {im : XI} {Q : Option Value → XS → XI → Prop} {l1 : Int32} {l2 : Int32} {l3 : Int32} {l4 : Int32} {l5 : Int32} {l6 : Int32} {i1 : Nat} {i2 : Nat} (g0 : ((((24 : Int32) * l1) + l2) + l6) = nI i1) (g1 : i1 < 96) (g2 : l6 = nI i2) (g3 : i2 < 24) (k : V mX10_move d b 115 [some (.ref 0), some (.int l1), some (.int l2), some (.int l3), some (.int l4), some (.int l5), some (.int (l6 + (1 : Int32)))] [] SM (xup im 12 i2 (im 11 i1)) Q) : V mX10_move d b 122 [some (.ref 0), some (.int l1), some (.int l2), some (.int l3), some (.int l4), some (.int l5), some (.int l6)] [] SM im Q := by
  refine V.aload_n dX10_move_122 rfl rfl ?_
  refine V.getR fX10_43 rfl (by rfl) (by rfl) dX10_move_123 ?_
  refine V.iload dX10_move_126 rfl ?_
  refine V.aload_n dX10_move_128 rfl rfl ?_
  refine V.getR fX10_40 rfl (by rfl) (by rfl) dX10_move_129 ?_
  refine V.bipush (v := 24) dX10_move_132 (by decide) ?_
  refine V.iload_n dX10_move_134 rfl rfl ?_
  refine V.imul dX10_move_135 ?_
  refine V.iload_n dX10_move_136 rfl rfl ?_
  refine V.iadd dX10_move_137 ?_
  refine V.iload dX10_move_138 rfl ?_
  refine V.iadd dX10_move_140 ?_
  refine V.iald (i := i1) ⟨by rfl, by rfl⟩ g0 g1 dX10_move_141 ?_
  refine V.iast (i := i2) ⟨by rfl, by rfl⟩ g2 g3 dX10_move_142 ?_
  refine V.iinc (v := (l6 + (1 : Int32))) dX10_move_143 rfl rfl rfl ?_
  refine V.goto (tgt := 115) dX10_move_146 (by decide) ?_
  exact k
theorem bX10_move_149 {d : Nat} {b : Nat × Nat}  {im : XI} {Q : Option Value → XS → XI → Prop} {l1 : Int32} {l2 : Int32} {l3 : Int32} {l4 : Int32} {l5 : Int32} {l6 : Int32}  (k : V mX10_move d b 152 [some (.ref 0), some (.int l1), some (.int l2), some (.int l3), some (.int l4), some (.int l5), some (.int (0 : Int32))] [] SM im Q) : V mX10_move d b 149 [some (.ref 0), some (.int l1), some (.int l2), some (.int l3), some (.int l4), some (.int l5), some (.int l6)] [] SM im Q := by
  refine V.iconst (v := 0) dX10_move_149 (by decide) ?_
  refine V.istore dX10_move_150 rfl rfl ?_
  exact k
theorem bX10_move_152 {d : Nat} {b : Nat × Nat}  {im : XI} {Q : Option Value → XS → XI → Prop} {l1 : Int32} {l2 : Int32} {l3 : Int32} {l4 : Int32} {l5 : Int32} {l6 : Int32}  (kt : l5 ≤ l6 → V mX10_move d b 187 [some (.ref 0), some (.int l1), some (.int l2), some (.int l3), some (.int l4), some (.int l5), some (.int l6)] [] SM im Q) (kf : ¬ l5 ≤ l6 → V mX10_move d b 159 [some (.ref 0), some (.int l1), some (.int l2), some (.int l3), some (.int l4), some (.int l5), some (.int l6)] [] SM im Q) : V mX10_move d b 152 [some (.ref 0), some (.int l1), some (.int l2), some (.int l3), some (.int l4), some (.int l5), some (.int l6)] [] SM im Q := by
  refine V.iload dX10_move_152 rfl ?_
  refine V.iload dX10_move_154 rfl ?_
  refine V.icmp_ge (tgt := 187) dX10_move_156 (by decide) (fun h => ?_) (fun h => ?_)
  · exact kt h
  · exact kf h
theorem bX10_move_159 {d : Nat} {b : Nat × Nat}  {im : XI} {Q : Option Value → XS → XI → Prop} {l1 : Int32} {l2 : Int32} {l3 : Int32} {l4 : Int32} {l5 : Int32} {l6 : Int32} {i1 : Nat} {i2 : Nat} (g0 : l6 = nI i1) (g1 : i1 < 24) (g2 : ((((24 : Int32) * l3) + l4) + l6) = nI i2) (g3 : i2 < 96) (k : V mX10_move d b 152 [some (.ref 0), some (.int l1), some (.int l2), some (.int l3), some (.int l4), some (.int l5), some (.int (l6 + (1 : Int32)))] [] SM (xup im 11 i2 (im 12 i1)) Q) : V mX10_move d b 159 [some (.ref 0), some (.int l1), some (.int l2), some (.int l3), some (.int l4), some (.int l5), some (.int l6)] [] SM im Q := by
  refine V.aload_n dX10_move_159 rfl rfl ?_
  refine V.getR fX10_40 rfl (by rfl) (by rfl) dX10_move_160 ?_
  refine V.bipush (v := 24) dX10_move_163 (by decide) ?_
  refine V.iload_n dX10_move_165 rfl rfl ?_
  refine V.imul dX10_move_166 ?_
  refine V.iload dX10_move_167 rfl ?_
  refine V.iadd dX10_move_169 ?_
  refine V.iload dX10_move_170 rfl ?_
  refine V.iadd dX10_move_172 ?_
  refine V.aload_n dX10_move_173 rfl rfl ?_
  refine V.getR fX10_43 rfl (by rfl) (by rfl) dX10_move_174 ?_
  refine V.iload dX10_move_177 rfl ?_
  refine V.iald (i := i1) ⟨by rfl, by rfl⟩ g0 g1 dX10_move_179 ?_
  refine V.iast (i := i2) ⟨by rfl, by rfl⟩ g2 g3 dX10_move_180 ?_
  refine V.iinc (v := (l6 + (1 : Int32))) dX10_move_181 rfl rfl rfl ?_
  refine V.goto (tgt := 152) dX10_move_184 (by decide) ?_
  exact k
theorem bX10_move_187 {d : Nat} {b : Nat × Nat}  {im : XI} {Q : Option Value → XS → XI → Prop} {l1 : Int32} {l2 : Int32} {l3 : Int32} {l4 : Int32} {l5 : Int32} {l6 : Int32}  (hq : Q (some (.int l5)) SM im) : V mX10_move d b 187 [some (.ref 0), some (.int l1), some (.int l2), some (.int l3), some (.int l4), some (.int l5), some (.int l6)] [] SM im Q := by
  refine V.iload dX10_move_187 rfl ?_
  exact V.iret rfl dX10_move_189 hq
theorem bX10_lacks_0 {d : Nat} {b : Nat × Nat}  {im : XI} {Q : Option Value → XS → XI → Prop} {l1 : Int32} {P : Int32 → XI → Prop}  (hs : SpI mX10_isSheet d [.int l1] SM im P) (k : ∀ x2 im2, P x2 im2 → V mX10_lacks (d + 1) b 4 [some (.ref 0), some (.int l1)] [.int x2] SM im2 Q) : V mX10_lacks (d + 1) b 0 [some (.ref 0), some (.int l1)] [] SM im Q := by
  refine V.iload_n dX10_lacks_0 rfl rfl ?_
  refine V.cSI rfl vX10_isSheet lkX10_254 sX10_isSheet (As := [.int l1]) rfl rfl rfl dX10_lacks_1 hs (fun x2 im2 h2 => ?_)
  exact k x2 im2 h2
theorem bX10_lacks_4 {d : Nat} {b : Nat × Nat}  {im : XI} {Q : Option Value → XS → XI → Prop} {l1 : Int32} {s0 : Int32}  (kt : ¬ s0 = 0 → V mX10_lacks d b 11 [some (.ref 0), some (.int l1)] [] SM im Q) (kf : s0 = 0 → V mX10_lacks d b 7 [some (.ref 0), some (.int l1)] [] SM im Q) : V mX10_lacks d b 4 [some (.ref 0), some (.int l1)] [.int s0] SM im Q := by
  refine V.if_ne (tgt := 11) dX10_lacks_4 (by decide) (fun h => ?_) (fun h => ?_)
  · exact kt h
  · exact kf h
theorem bX10_lacks_7 {d : Nat} {b : Nat × Nat}  {im : XI} {Q : Option Value → XS → XI → Prop} {l1 : Int32}  (k : V mX10_lacks d b 25 [some (.ref 0), some (.int l1)] [.int (1 : Int32)] SM im Q) : V mX10_lacks d b 7 [some (.ref 0), some (.int l1)] [] SM im Q := by
  refine V.iconst (v := 1) dX10_lacks_7 (by decide) ?_
  refine V.goto (tgt := 25) dX10_lacks_8 (by decide) ?_
  exact k
theorem bX10_lacks_11 {d : Nat} {b : Nat × Nat}  {im : XI} {Q : Option Value → XS → XI → Prop} {l1 : Int32} {i1 : Nat} (g0 : l1 = nI i1) (g1 : i1 < 4) (kt : ¬ (im 9 i1) = 0 → V mX10_lacks d b 24 [some (.ref 0), some (.int l1)] [] SM im Q) (kf : (im 9 i1) = 0 → V mX10_lacks d b 20 [some (.ref 0), some (.int l1)] [] SM im Q) : V mX10_lacks d b 11 [some (.ref 0), some (.int l1)] [] SM im Q := by
  refine V.aload_n dX10_lacks_11 rfl rfl ?_
  refine V.getR fX10_34 rfl (by rfl) (by rfl) dX10_lacks_12 ?_
  refine V.iload_n dX10_lacks_15 rfl rfl ?_
  refine V.iald (i := i1) ⟨by rfl, by rfl⟩ g0 g1 dX10_lacks_16 ?_
  refine V.if_ne (tgt := 24) dX10_lacks_17 (by decide) (fun h => ?_) (fun h => ?_)
  · exact kt h
  · exact kf h
theorem bX10_lacks_20 {d : Nat} {b : Nat × Nat}  {im : XI} {Q : Option Value → XS → XI → Prop} {l1 : Int32}  (k : V mX10_lacks d b 25 [some (.ref 0), some (.int l1)] [.int (2 : Int32)] SM im Q) : V mX10_lacks d b 20 [some (.ref 0), some (.int l1)] [] SM im Q := by
  refine V.iconst (v := 2) dX10_lacks_20 (by decide) ?_
  refine V.goto (tgt := 25) dX10_lacks_21 (by decide) ?_
  exact k
theorem bX10_lacks_24 {d : Nat} {b : Nat × Nat}  {im : XI} {Q : Option Value → XS → XI → Prop} {l1 : Int32}  (k : V mX10_lacks d b 25 [some (.ref 0), some (.int l1)] [.int (0 : Int32)] SM im Q) : V mX10_lacks d b 24 [some (.ref 0), some (.int l1)] [] SM im Q := by
  refine V.iconst (v := 0) dX10_lacks_24 (by decide) ?_
  exact k
theorem bX10_lacks_25 {d : Nat} {b : Nat × Nat}  {im : XI} {Q : Option Value → XS → XI → Prop} {l1 : Int32} {s0 : Int32}  (hq : Q (some (.int s0)) SM im) : V mX10_lacks d b 25 [some (.ref 0), some (.int l1)] [.int s0] SM im Q := by
  exact V.iret rfl dX10_lacks_25 hq
theorem bX10_partsAll_0 {d : Nat} {b : Nat × Nat}  {im : XI} {Q : Option Value → XS → XI → Prop} {l1 : Int32} {P : Int32 → XI → Prop}  (hs : SpI mX10_lacks d [.ref 0, .int l1] SM im P) (k : ∀ x2 im2, P x2 im2 → V mX10_partsAll (d + 1) b 5 [some (.ref 0), some (.int l1), none, none] [.int x2] SM im2 Q) : V mX10_partsAll (d + 1) b 0 [some (.ref 0), some (.int l1), none, none] [] SM im Q := by
  refine V.aload_n dX10_partsAll_0 rfl rfl ?_
  refine V.iload_n dX10_partsAll_1 rfl rfl ?_
  refine V.cVI rfl vX10_lacks lkX10_215 wX10_lacks (ci := 10) rfl (by rfl) (As := [.int l1]) rfl rfl rfl dX10_partsAll_2 hs (fun x2 im2 h2 => ?_)
  exact k x2 im2 h2
theorem bX10_partsAll_5 {d : Nat} {b : Nat × Nat}  {im : XI} {Q : Option Value → XS → XI → Prop} {l1 : Int32} {s0 : Int32}  (kt : s0 = 0 → V mX10_partsAll d b 16 [some (.ref 0), some (.int l1), some (.int s0), none] [] SM im Q) (kf : ¬ s0 = 0 → V mX10_partsAll d b 10 [some (.ref 0), some (.int l1), some (.int s0), none] [] SM im Q) : V mX10_partsAll d b 5 [some (.ref 0), some (.int l1), none, none] [.int s0] SM im Q := by
  refine V.istore_n dX10_partsAll_5 rfl rfl rfl ?_
  refine V.iload_n dX10_partsAll_6 rfl rfl ?_
  refine V.if_eq (tgt := 16) dX10_partsAll_7 (by decide) (fun h => ?_) (fun h => ?_)
  · exact kt h
  · exact kf h
theorem bX10_partsAll_10 {d : Nat} {b : Nat × Nat}  {im : XI} {Q : Option Value → XS → XI → Prop} {l1 : Int32} {l2 : Int32} {P : Int32 → XI → Prop}  (hs : SpI mX10_error d [.ref 0, .int l2] SM im P) (k : ∀ x2 im2, P x2 im2 → V mX10_partsAll (d + 1) b 15 [some (.ref 0), some (.int l1), some (.int l2), none] [.int x2] SM im2 Q) : V mX10_partsAll (d + 1) b 10 [some (.ref 0), some (.int l1), some (.int l2), none] [] SM im Q := by
  refine V.aload_n dX10_partsAll_10 rfl rfl ?_
  refine V.iload_n dX10_partsAll_11 rfl rfl ?_
  refine V.cVI rfl vX10_error lkX10_51 wX10_error (ci := 10) rfl (by rfl) (As := [.int l2]) rfl rfl rfl dX10_partsAll_12 hs (fun x2 im2 h2 => ?_)
  exact k x2 im2 h2
theorem bX10_partsAll_15 {d : Nat} {b : Nat × Nat}  {im : XI} {Q : Option Value → XS → XI → Prop} {l1 : Int32} {l2 : Int32} {s0 : Int32}  (hq : Q (some (.int s0)) SM im) : V mX10_partsAll d b 15 [some (.ref 0), some (.int l1), some (.int l2), none] [.int s0] SM im Q := by
  exact V.iret rfl dX10_partsAll_15 hq
theorem bX10_partsAll_16 {d : Nat} {b : Nat × Nat}  {im : XI} {Q : Option Value → XS → XI → Prop} {l1 : Int32} {l2 : Int32}  (k : V mX10_partsAll d b 18 [some (.ref 0), some (.int l1), some (.int l2), some (.int (0 : Int32))] [] SM im Q) : V mX10_partsAll d b 16 [some (.ref 0), some (.int l1), some (.int l2), none] [] SM im Q := by
  refine V.iconst (v := 0) dX10_partsAll_16 (by decide) ?_
  refine V.istore_n dX10_partsAll_17 rfl rfl rfl ?_
  exact k
theorem bX10_partsAll_18 {d : Nat} {b : Nat × Nat}  {im : XI} {Q : Option Value → XS → XI → Prop} {l1 : Int32} {l2 : Int32} {l3 : Int32} {i1 : Nat} (g0 : l1 = nI i1) (g1 : i1 < 4) (kt : (im 10 i1) ≤ l3 → V mX10_partsAll d b 79 [some (.ref 0), some (.int l1), some (.int l2), some (.int l3)] [] SM im Q) (kf : ¬ (im 10 i1) ≤ l3 → V mX10_partsAll d b 28 [some (.ref 0), some (.int l1), some (.int l2), some (.int l3)] [] SM im Q) : V mX10_partsAll d b 18 [some (.ref 0), some (.int l1), some (.int l2), some (.int l3)] [] SM im Q := by
  refine V.iload_n dX10_partsAll_18 rfl rfl ?_
  refine V.aload_n dX10_partsAll_19 rfl rfl ?_
  refine V.getR fX10_37 rfl (by rfl) (by rfl) dX10_partsAll_20 ?_
  refine V.iload_n dX10_partsAll_23 rfl rfl ?_
  refine V.iald (i := i1) ⟨by rfl, by rfl⟩ g0 g1 dX10_partsAll_24 ?_
  refine V.icmp_ge (tgt := 79) dX10_partsAll_25 (by decide) (fun h => ?_) (fun h => ?_)
  · exact kt h
  · exact kf h
theorem bX10_partsAll_28 {d : Nat} {b : Nat × Nat}  {im : XI} {Q : Option Value → XS → XI → Prop} {l1 : Int32} {l2 : Int32} {l3 : Int32} {P : Int32 → XI → Prop}  (hs : SpI mX10_isDoing d [.ref 0, .int l3] SM im P) (k : ∀ x2 im2, P x2 im2 → V mX10_partsAll (d + 1) b 33 [some (.ref 0), some (.int l1), some (.int l2), some (.int l3)] [.int x2] SM im2 Q) : V mX10_partsAll (d + 1) b 28 [some (.ref 0), some (.int l1), some (.int l2), some (.int l3)] [] SM im Q := by
  refine V.aload_n dX10_partsAll_28 rfl rfl ?_
  refine V.iload_n dX10_partsAll_29 rfl rfl ?_
  refine V.cVI rfl vX10_isDoing lkX10_178 wX10_isDoing (ci := 10) rfl (by rfl) (As := [.int l3]) rfl rfl rfl dX10_partsAll_30 hs (fun x2 im2 h2 => ?_)
  exact k x2 im2 h2
theorem bX10_partsAll_33 {d : Nat} {b : Nat × Nat}  {im : XI} {Q : Option Value → XS → XI → Prop} {l1 : Int32} {l2 : Int32} {l3 : Int32} {s0 : Int32}  (kt : s0 = 0 → V mX10_partsAll d b 79 [some (.ref 0), some (.int l1), some (.int l2), some (.int l3)] [] SM im Q) (kf : ¬ s0 = 0 → V mX10_partsAll d b 36 [some (.ref 0), some (.int l1), some (.int l2), some (.int l3)] [] SM im Q) : V mX10_partsAll d b 33 [some (.ref 0), some (.int l1), some (.int l2), some (.int l3)] [.int s0] SM im Q := by
  refine V.if_eq (tgt := 79) dX10_partsAll_33 (by decide) (fun h => ?_) (fun h => ?_)
  · exact kt h
  · exact kf h
theorem bX10_partsAll_36 {d : Nat} {b : Nat × Nat}  {im : XI} {Q : Option Value → XS → XI → Prop} {l1 : Int32} {l2 : Int32} {l3 : Int32} {i1 : Nat} {P : Int32 → XI → Prop} (g0 : (((24 : Int32) * l1) + l3) = nI i1) (g1 : i1 < 96) (hs : SpI mX10_in d [.int (im 11 i1), .int (0 : Int32), .int (99 : Int32)] SM im P) (k : ∀ x2 im2, P x2 im2 → V mX10_partsAll (d + 1) b 53 [some (.ref 0), some (.int l1), some (.int l2), some (.int l3)] [.int x2] SM im2 Q) : V mX10_partsAll (d + 1) b 36 [some (.ref 0), some (.int l1), some (.int l2), some (.int l3)] [] SM im Q := by
  refine V.aload_n dX10_partsAll_36 rfl rfl ?_
  refine V.getR fX10_40 rfl (by rfl) (by rfl) dX10_partsAll_37 ?_
  refine V.bipush (v := 24) dX10_partsAll_40 (by decide) ?_
  refine V.iload_n dX10_partsAll_42 rfl rfl ?_
  refine V.imul dX10_partsAll_43 ?_
  refine V.iload_n dX10_partsAll_44 rfl rfl ?_
  refine V.iadd dX10_partsAll_45 ?_
  refine V.iald (i := i1) ⟨by rfl, by rfl⟩ g0 g1 dX10_partsAll_46 ?_
  refine V.iconst (v := 0) dX10_partsAll_47 (by decide) ?_
  refine V.bipush (v := 99) dX10_partsAll_48 (by decide) ?_
  refine V.cSI rfl vX10_in lkX10_47 sX10_in (As := [.int (im 11 i1), .int (0 : Int32), .int (99 : Int32)]) rfl rfl rfl dX10_partsAll_50 hs (fun x2 im2 h2 => ?_)
  exact k x2 im2 h2
theorem bX10_partsAll_53 {d : Nat} {b : Nat × Nat}  {im : XI} {Q : Option Value → XS → XI → Prop} {l1 : Int32} {l2 : Int32} {l3 : Int32} {s0 : Int32}  (kt : s0 = 0 → V mX10_partsAll d b 79 [some (.ref 0), some (.int l1), some (.int l2), some (.int l3)] [] SM im Q) (kf : ¬ s0 = 0 → V mX10_partsAll d b 56 [some (.ref 0), some (.int l1), some (.int l2), some (.int l3)] [] SM im Q) : V mX10_partsAll d b 53 [some (.ref 0), some (.int l1), some (.int l2), some (.int l3)] [.int s0] SM im Q := by
  refine V.if_eq (tgt := 79) dX10_partsAll_53 (by decide) (fun h => ?_) (fun h => ?_)
  · exact kt h
  · exact kf h
theorem bX10_partsAll_56 {d : Nat} {b : Nat × Nat}  {im : XI} {Q : Option Value → XS → XI → Prop} {l1 : Int32} {l2 : Int32} {l3 : Int32} {i1 : Nat} {P : XI → Prop} (g0 : (((24 : Int32) * l1) + l3) = nI i1) (g1 : i1 < 96) (hs : SpV mX10_laysDoing d [.ref 0, .int l3, .int (1 : Int32), .int (im 11 i1)] SM im P) (k : ∀ im2, P im2 → V mX10_partsAll (d + 1) b 73 [some (.ref 0), some (.int l1), some (.int l2), some (.int l3)] [] SM im2 Q) : V mX10_partsAll (d + 1) b 56 [some (.ref 0), some (.int l1), some (.int l2), some (.int l3)] [] SM im Q := by
  refine V.aload_n dX10_partsAll_56 rfl rfl ?_
  refine V.iload_n dX10_partsAll_57 rfl rfl ?_
  refine V.iconst (v := 1) dX10_partsAll_58 (by decide) ?_
  refine V.aload_n dX10_partsAll_59 rfl rfl ?_
  refine V.getR fX10_40 rfl (by rfl) (by rfl) dX10_partsAll_60 ?_
  refine V.bipush (v := 24) dX10_partsAll_63 (by decide) ?_
  refine V.iload_n dX10_partsAll_65 rfl rfl ?_
  refine V.imul dX10_partsAll_66 ?_
  refine V.iload_n dX10_partsAll_67 rfl rfl ?_
  refine V.iadd dX10_partsAll_68 ?_
  refine V.iald (i := i1) ⟨by rfl, by rfl⟩ g0 g1 dX10_partsAll_69 ?_
  refine V.cVV rfl vX10_laysDoing lkX10_145 wX10_laysDoing (ci := 10) rfl (by rfl) (As := [.int l3, .int (1 : Int32), .int (im 11 i1)]) rfl rfl rfl dX10_partsAll_70 hs (fun im2 h2 => ?_)
  exact k im2 h2
theorem bX10_partsAll_73 {d : Nat} {b : Nat × Nat}  {im : XI} {Q : Option Value → XS → XI → Prop} {l1 : Int32} {l2 : Int32} {l3 : Int32}  (k : V mX10_partsAll d b 18 [some (.ref 0), some (.int l1), some (.int l2), some (.int (l3 + (1 : Int32)))] [] SM im Q) : V mX10_partsAll d b 73 [some (.ref 0), some (.int l1), some (.int l2), some (.int l3)] [] SM im Q := by
  refine V.iinc (v := (l3 + (1 : Int32))) dX10_partsAll_73 rfl rfl rfl ?_
  refine V.goto (tgt := 18) dX10_partsAll_76 (by decide) ?_
  exact k
theorem bX10_partsAll_79 {d : Nat} {b : Nat × Nat}  {im : XI} {Q : Option Value → XS → XI → Prop} {l1 : Int32} {l2 : Int32} {l3 : Int32}  (hq : Q (some (.int l3)) SM im) : V mX10_partsAll d b 79 [some (.ref 0), some (.int l1), some (.int l2), some (.int l3)] [] SM im Q := by
  refine V.iload_n dX10_partsAll_79 rfl rfl ?_
  exact V.iret rfl dX10_partsAll_80 hq
theorem bX10_judge_0 {d : Nat} {b : Nat × Nat}  {im : XI} {Q : Option Value → XS → XI → Prop} {l1 : Int32} {P : Int32 → XI → Prop}  (hs : SpI mX10_lacks d [.ref 0, .int l1] SM im P) (k : ∀ x2 im2, P x2 im2 → V mX10_judge (d + 1) b 5 [some (.ref 0), some (.int l1), none, none, none] [.int x2] SM im2 Q) : V mX10_judge (d + 1) b 0 [some (.ref 0), some (.int l1), none, none, none] [] SM im Q := by
  refine V.aload_n dX10_judge_0 rfl rfl ?_
  refine V.iload_n dX10_judge_1 rfl rfl ?_
  refine V.cVI rfl vX10_lacks lkX10_215 wX10_lacks (ci := 10) rfl (by rfl) (As := [.int l1]) rfl rfl rfl dX10_judge_2 hs (fun x2 im2 h2 => ?_)
  exact k x2 im2 h2
theorem bX10_judge_5 {d : Nat} {b : Nat × Nat}  {im : XI} {Q : Option Value → XS → XI → Prop} {l1 : Int32} {s0 : Int32}  (kt : s0 = 0 → V mX10_judge d b 16 [some (.ref 0), some (.int l1), some (.int s0), none, none] [] SM im Q) (kf : ¬ s0 = 0 → V mX10_judge d b 10 [some (.ref 0), some (.int l1), some (.int s0), none, none] [] SM im Q) : V mX10_judge d b 5 [some (.ref 0), some (.int l1), none, none, none] [.int s0] SM im Q := by
  refine V.istore_n dX10_judge_5 rfl rfl rfl ?_
  refine V.iload_n dX10_judge_6 rfl rfl ?_
  refine V.if_eq (tgt := 16) dX10_judge_7 (by decide) (fun h => ?_) (fun h => ?_)
  · exact kt h
  · exact kf h
theorem bX10_judge_10 {d : Nat} {b : Nat × Nat}  {im : XI} {Q : Option Value → XS → XI → Prop} {l1 : Int32} {l2 : Int32} {P : Int32 → XI → Prop}  (hs : SpI mX10_error d [.ref 0, .int l2] SM im P) (k : ∀ x2 im2, P x2 im2 → V mX10_judge (d + 1) b 15 [some (.ref 0), some (.int l1), some (.int l2), none, none] [.int x2] SM im2 Q) : V mX10_judge (d + 1) b 10 [some (.ref 0), some (.int l1), some (.int l2), none, none] [] SM im Q := by
  refine V.aload_n dX10_judge_10 rfl rfl ?_
  refine V.iload_n dX10_judge_11 rfl rfl ?_
  refine V.cVI rfl vX10_error lkX10_51 wX10_error (ci := 10) rfl (by rfl) (As := [.int l2]) rfl rfl rfl dX10_judge_12 hs (fun x2 im2 h2 => ?_)
  exact k x2 im2 h2
theorem bX10_judge_15 {d : Nat} {b : Nat × Nat}  {im : XI} {Q : Option Value → XS → XI → Prop} {l1 : Int32} {l2 : Int32} {s0 : Int32}  (hq : Q (some (.int s0)) SM im) : V mX10_judge d b 15 [some (.ref 0), some (.int l1), some (.int l2), none, none] [.int s0] SM im Q := by
  exact V.iret rfl dX10_judge_15 hq
theorem bX10_judge_16 {d : Nat} {b : Nat × Nat}  {im : XI} {Q : Option Value → XS → XI → Prop} {l1 : Int32} {l2 : Int32}  (k : V mX10_judge d b 26 [some (.ref 0), some (.int l1), some (.int l2), some (.int (im 1 0)), some (.int (0 : Int32))] [] SM im Q) : V mX10_judge d b 16 [some (.ref 0), some (.int l1), some (.int l2), none, none] [] SM im Q := by
  refine V.aload_n dX10_judge_16 rfl rfl ?_
  refine V.getR fX10_7 rfl (by rfl) (by rfl) dX10_judge_17 ?_
  refine V.iconst (v := 0) dX10_judge_20 (by decide) ?_
  refine V.iald (i := 0) ⟨by rfl, by rfl⟩ (by rfl) (by decide) dX10_judge_21 ?_
  refine V.istore_n dX10_judge_22 rfl rfl rfl ?_
  refine V.iconst (v := 0) dX10_judge_23 (by decide) ?_
  refine V.istore dX10_judge_24 rfl rfl ?_
  exact k
theorem bX10_judge_26 {d : Nat} {b : Nat × Nat}  {im : XI} {Q : Option Value → XS → XI → Prop} {l1 : Int32} {l2 : Int32} {l3 : Int32} {l4 : Int32} {i1 : Nat} (g0 : l1 = nI i1) (g1 : i1 < 4) (kt : (im 10 i1) ≤ l4 → V mX10_judge d b 72 [some (.ref 0), some (.int l1), some (.int l2), some (.int l3), some (.int l4)] [] SM im Q) (kf : ¬ (im 10 i1) ≤ l4 → V mX10_judge d b 37 [some (.ref 0), some (.int l1), some (.int l2), some (.int l3), some (.int l4)] [] SM im Q) : V mX10_judge d b 26 [some (.ref 0), some (.int l1), some (.int l2), some (.int l3), some (.int l4)] [] SM im Q := by
  refine V.iload dX10_judge_26 rfl ?_
  refine V.aload_n dX10_judge_28 rfl rfl ?_
  refine V.getR fX10_37 rfl (by rfl) (by rfl) dX10_judge_29 ?_
  refine V.iload_n dX10_judge_32 rfl rfl ?_
  refine V.iald (i := i1) ⟨by rfl, by rfl⟩ g0 g1 dX10_judge_33 ?_
  refine V.icmp_ge (tgt := 72) dX10_judge_34 (by decide) (fun h => ?_) (fun h => ?_)
  · exact kt h
  · exact kf h
theorem bX10_judge_37 {d : Nat} {b : Nat × Nat}  {im : XI} {Q : Option Value → XS → XI → Prop} {l1 : Int32} {l2 : Int32} {l3 : Int32} {l4 : Int32} {P : Int32 → XI → Prop}  (hs : SpI mX10_shutNow d [.ref 0] SM im P) (k : ∀ x2 im2, P x2 im2 → V mX10_judge (d + 1) b 41 [some (.ref 0), some (.int l1), some (.int l2), some (.int l3), some (.int l4)] [.int x2] SM im2 Q) : V mX10_judge (d + 1) b 37 [some (.ref 0), some (.int l1), some (.int l2), some (.int l3), some (.int l4)] [] SM im Q := by
  refine V.aload_n dX10_judge_37 rfl rfl ?_
  refine V.cVI rfl vX10_shutNow lkX10_149 wX10_shutNow (ci := 10) rfl (by rfl) (As := []) rfl rfl rfl dX10_judge_38 hs (fun x2 im2 h2 => ?_)
  exact k x2 im2 h2
theorem bX10_judge_41 {d : Nat} {b : Nat × Nat}  {im : XI} {Q : Option Value → XS → XI → Prop} {l1 : Int32} {l2 : Int32} {l3 : Int32} {l4 : Int32} {s0 : Int32} {i1 : Nat} (g0 : (((24 : Int32) * l1) + l4) = nI i1) (g1 : i1 < 96) (kt : ¬ s0 = (im 11 i1) → V mX10_judge d b 72 [some (.ref 0), some (.int l1), some (.int l2), some (.int l3), some (.int l4)] [] SM im Q) (kf : s0 = (im 11 i1) → V mX10_judge d b 56 [some (.ref 0), some (.int l1), some (.int l2), some (.int l3), some (.int l4)] [] SM im Q) : V mX10_judge d b 41 [some (.ref 0), some (.int l1), some (.int l2), some (.int l3), some (.int l4)] [.int s0] SM im Q := by
  refine V.aload_n dX10_judge_41 rfl rfl ?_
  refine V.getR fX10_40 rfl (by rfl) (by rfl) dX10_judge_42 ?_
  refine V.bipush (v := 24) dX10_judge_45 (by decide) ?_
  refine V.iload_n dX10_judge_47 rfl rfl ?_
  refine V.imul dX10_judge_48 ?_
  refine V.iload dX10_judge_49 rfl ?_
  refine V.iadd dX10_judge_51 ?_
  refine V.iald (i := i1) ⟨by rfl, by rfl⟩ g0 g1 dX10_judge_52 ?_
  refine V.icmp_ne (tgt := 72) dX10_judge_53 (by decide) (fun h => ?_) (fun h => ?_)
  · exact kt h
  · exact kf h
theorem bX10_judge_56 {d : Nat} {b : Nat × Nat}  {im : XI} {Q : Option Value → XS → XI → Prop} {l1 : Int32} {l2 : Int32} {l3 : Int32} {l4 : Int32}  (k : V mX10_judge d b 26 [some (.ref 0), some (.int l1), some (.int l2), some (.int l3), some (.int (l4 + (1 : Int32)))] [] SM (xup im 1 0 ((im 1 0) + (1 : Int32))) Q) : V mX10_judge d b 56 [some (.ref 0), some (.int l1), some (.int l2), some (.int l3), some (.int l4)] [] SM im Q := by
  refine V.aload_n dX10_judge_56 rfl rfl ?_
  refine V.getR fX10_7 rfl (by rfl) (by rfl) dX10_judge_57 ?_
  refine V.iconst (v := 0) dX10_judge_60 (by decide) ?_
  refine V.dup2 dX10_judge_61 rfl rfl ?_
  refine V.iald (i := 0) ⟨by rfl, by rfl⟩ (by rfl) (by decide) dX10_judge_62 ?_
  refine V.iconst (v := 1) dX10_judge_63 (by decide) ?_
  refine V.iadd dX10_judge_64 ?_
  refine V.iast (i := 0) ⟨by rfl, by rfl⟩ (by rfl) (by decide) dX10_judge_65 ?_
  refine V.iinc (v := (l4 + (1 : Int32))) dX10_judge_66 rfl rfl rfl ?_
  refine V.goto (tgt := 26) dX10_judge_69 (by decide) ?_
  exact k
theorem bX10_judge_72 {d : Nat} {b : Nat × Nat}  {im : XI} {Q : Option Value → XS → XI → Prop} {l1 : Int32} {l2 : Int32} {l3 : Int32} {l4 : Int32}  (hq : Q (some (.int l4)) SM (xup im 1 0 l3)) : V mX10_judge d b 72 [some (.ref 0), some (.int l1), some (.int l2), some (.int l3), some (.int l4)] [] SM im Q := by
  refine V.aload_n dX10_judge_72 rfl rfl ?_
  refine V.getR fX10_7 rfl (by rfl) (by rfl) dX10_judge_73 ?_
  refine V.iconst (v := 0) dX10_judge_76 (by decide) ?_
  refine V.iload_n dX10_judge_77 rfl rfl ?_
  refine V.iast (i := 0) ⟨by rfl, by rfl⟩ (by rfl) (by decide) dX10_judge_78 ?_
  refine V.iload dX10_judge_79 rfl ?_
  exact V.iret rfl dX10_judge_81 hq
theorem bX10_image_0 {d : Nat} {b : Nat × Nat}  {im : XI} {Q : Option Value → XS → XI → Prop} {P : XI → Prop}  (hs : SpV mX10_copyAll d [.ref 1, .ref 2] SM im P) (k : ∀ im2, P im2 → V mX10_image (d + 1) b 11 [some (.ref 0)] [] SM im2 Q) : V mX10_image (d + 1) b 0 [some (.ref 0)] [] SM im Q := by
  refine V.aload_n dX10_image_0 rfl rfl ?_
  refine V.getR fX10_7 rfl (by rfl) (by rfl) dX10_image_1 ?_
  refine V.aload_n dX10_image_4 rfl rfl ?_
  refine V.getR fX10_13 rfl (by rfl) (by rfl) dX10_image_5 ?_
  refine V.cSV rfl vX10_copyAll lkX10_257 sX10_copyAll (As := [.ref 1, .ref 2]) rfl rfl rfl dX10_image_8 hs (fun im2 h2 => ?_)
  exact k im2 h2
theorem bX10_image_11 {d : Nat} {b : Nat × Nat}  {im : XI} {Q : Option Value → XS → XI → Prop}   (hq : Q (some (.int ((xup im 0 3 ((im 0 3) + (1 : Int32))) 0 3))) SM (xup im 0 3 ((im 0 3) + (1 : Int32)))) : V mX10_image d b 11 [some (.ref 0)] [] SM im Q := by
  refine V.aload_n dX10_image_11 rfl rfl ?_
  refine V.dup dX10_image_12 rfl ?_
  refine V.getI fX10_261 rfl (by rfl) dX10_image_13 ?_
  refine V.iconst (v := 1) dX10_image_16 (by decide) ?_
  refine V.iadd dX10_image_17 ?_
  refine V.putI fX10_261 (fun h => by cases h) rfl (by rfl) dX10_image_18 ?_
  refine V.aload_n dX10_image_21 rfl rfl ?_
  refine V.getI fX10_261 rfl (by rfl) dX10_image_22 ?_
  exact V.iret rfl dX10_image_25 hq
theorem bX10_restore_0 {d : Nat} {b : Nat × Nat}  {im : XI} {Q : Option Value → XS → XI → Prop}   (kt : ¬ (im 0 3) = 0 → V mX10_restore d b 13 [some (.ref 0)] [] SM im Q) (kf : (im 0 3) = 0 → V mX10_restore d b 7 [some (.ref 0)] [] SM im Q) : V mX10_restore d b 0 [some (.ref 0)] [] SM im Q := by
  refine V.aload_n dX10_restore_0 rfl rfl ?_
  refine V.getI fX10_261 rfl (by rfl) dX10_restore_1 ?_
  refine V.if_ne (tgt := 13) dX10_restore_4 (by decide) (fun h => ?_) (fun h => ?_)
  · exact kt h
  · exact kf h
theorem bX10_restore_7 {d : Nat} {b : Nat × Nat}  {im : XI} {Q : Option Value → XS → XI → Prop} {P : Int32 → XI → Prop}  (hs : SpI mX10_error d [.ref 0, .int (2 : Int32)] SM im P) (k : ∀ x2 im2, P x2 im2 → V mX10_restore (d + 1) b 12 [some (.ref 0)] [.int x2] SM im2 Q) : V mX10_restore (d + 1) b 7 [some (.ref 0)] [] SM im Q := by
  refine V.aload_n dX10_restore_7 rfl rfl ?_
  refine V.iconst (v := 2) dX10_restore_8 (by decide) ?_
  refine V.cVI rfl vX10_error lkX10_51 wX10_error (ci := 10) rfl (by rfl) (As := [.int (2 : Int32)]) rfl rfl rfl dX10_restore_9 hs (fun x2 im2 h2 => ?_)
  exact k x2 im2 h2
theorem bX10_restore_12 {d : Nat} {b : Nat × Nat}  {im : XI} {Q : Option Value → XS → XI → Prop} {s0 : Int32}  (hq : Q (some (.int s0)) SM im) : V mX10_restore d b 12 [some (.ref 0)] [.int s0] SM im Q := by
  exact V.iret rfl dX10_restore_12 hq
theorem bX10_restore_13 {d : Nat} {b : Nat × Nat}  {im : XI} {Q : Option Value → XS → XI → Prop} {P : XI → Prop}  (hs : SpV mX10_copyAll d [.ref 2, .ref 1] SM im P) (k : ∀ im2, P im2 → V mX10_restore (d + 1) b 24 [some (.ref 0)] [] SM im2 Q) : V mX10_restore (d + 1) b 13 [some (.ref 0)] [] SM im Q := by
  refine V.aload_n dX10_restore_13 rfl rfl ?_
  refine V.getR fX10_13 rfl (by rfl) (by rfl) dX10_restore_14 ?_
  refine V.aload_n dX10_restore_17 rfl rfl ?_
  refine V.getR fX10_7 rfl (by rfl) (by rfl) dX10_restore_18 ?_
  refine V.cSV rfl vX10_copyAll lkX10_257 sX10_copyAll (As := [.ref 2, .ref 1]) rfl rfl rfl dX10_restore_21 hs (fun im2 h2 => ?_)
  exact k im2 h2
theorem bX10_restore_24 {d : Nat} {b : Nat × Nat}  {im : XI} {Q : Option Value → XS → XI → Prop}   (hq : Q (some (.int (im 1 0))) SM im) : V mX10_restore d b 24 [some (.ref 0)] [] SM im Q := by
  refine V.aload_n dX10_restore_24 rfl rfl ?_
  refine V.getR fX10_7 rfl (by rfl) (by rfl) dX10_restore_25 ?_
  refine V.iconst (v := 0) dX10_restore_28 (by decide) ?_
  refine V.iald (i := 0) ⟨by rfl, by rfl⟩ (by rfl) (by decide) dX10_restore_29 ?_
  exact V.iret rfl dX10_restore_30 hq
theorem bX10_tell_0 {d : Nat} {b : Nat × Nat}  {im : XI} {Q : Option Value → XS → XI → Prop} {l1 : Int32}  (kt : ¬ (im 1 3) = (24 : Int32) → V mX10_tell d b 17 [some (.ref 0), some (.int l1)] [] SM im Q) (kf : (im 1 3) = (24 : Int32) → V mX10_tell d b 11 [some (.ref 0), some (.int l1)] [] SM im Q) : V mX10_tell d b 0 [some (.ref 0), some (.int l1)] [] SM im Q := by
  refine V.aload_n dX10_tell_0 rfl rfl ?_
  refine V.getR fX10_7 rfl (by rfl) (by rfl) dX10_tell_1 ?_
  refine V.iconst (v := 3) dX10_tell_4 (by decide) ?_
  refine V.iald (i := 3) ⟨by rfl, by rfl⟩ (by rfl) (by decide) dX10_tell_5 ?_
  refine V.bipush (v := 24) dX10_tell_6 (by decide) ?_
  refine V.icmp_ne (tgt := 17) dX10_tell_8 (by decide) (fun h => ?_) (fun h => ?_)
  · exact kt h
  · exact kf h
theorem bX10_tell_11 {d : Nat} {b : Nat × Nat}  {im : XI} {Q : Option Value → XS → XI → Prop} {l1 : Int32} {P : Int32 → XI → Prop}  (hs : SpI mX10_error d [.ref 0, .int (4 : Int32)] SM im P) (k : ∀ x2 im2, P x2 im2 → V mX10_tell (d + 1) b 16 [some (.ref 0), some (.int l1)] [.int x2] SM im2 Q) : V mX10_tell (d + 1) b 11 [some (.ref 0), some (.int l1)] [] SM im Q := by
  refine V.aload_n dX10_tell_11 rfl rfl ?_
  refine V.iconst (v := 4) dX10_tell_12 (by decide) ?_
  refine V.cVI rfl vX10_error lkX10_51 wX10_error (ci := 10) rfl (by rfl) (As := [.int (4 : Int32)]) rfl rfl rfl dX10_tell_13 hs (fun x2 im2 h2 => ?_)
  exact k x2 im2 h2
theorem bX10_tell_16 {d : Nat} {b : Nat × Nat}  {im : XI} {Q : Option Value → XS → XI → Prop} {l1 : Int32} {s0 : Int32}  (hq : Q (some (.int s0)) SM im) : V mX10_tell d b 16 [some (.ref 0), some (.int l1)] [.int s0] SM im Q := by
  exact V.iret rfl dX10_tell_16 hq
theorem bX10_tell_17 {d : Nat} {b : Nat × Nat}  {im : XI} {Q : Option Value → XS → XI → Prop} {l1 : Int32} {i1 : Nat} (g0 : ((360 : Int32) + (im 1 3)) = nI i1) (g1 : i1 < 384) (hq : Q (some (.int ((xup (xup im 1 i1 l1) 1 3 (((xup im 1 i1 l1) 1 3) + (1 : Int32))) 1 3))) SM (xup (xup im 1 i1 l1) 1 3 (((xup im 1 i1 l1) 1 3) + (1 : Int32)))) : V mX10_tell d b 17 [some (.ref 0), some (.int l1)] [] SM im Q := by
  refine V.aload_n dX10_tell_17 rfl rfl ?_
  refine V.getR fX10_7 rfl (by rfl) (by rfl) dX10_tell_18 ?_
  refine V.sipush (v := 360) dX10_tell_21 (by decide) ?_
  refine V.aload_n dX10_tell_24 rfl rfl ?_
  refine V.getR fX10_7 rfl (by rfl) (by rfl) dX10_tell_25 ?_
  refine V.iconst (v := 3) dX10_tell_28 (by decide) ?_
  refine V.iald (i := 3) ⟨by rfl, by rfl⟩ (by rfl) (by decide) dX10_tell_29 ?_
  refine V.iadd dX10_tell_30 ?_
  refine V.iload_n dX10_tell_31 rfl rfl ?_
  refine V.iast (i := i1) ⟨by rfl, by rfl⟩ g0 g1 dX10_tell_32 ?_
  refine V.aload_n dX10_tell_33 rfl rfl ?_
  refine V.getR fX10_7 rfl (by rfl) (by rfl) dX10_tell_34 ?_
  refine V.iconst (v := 3) dX10_tell_37 (by decide) ?_
  refine V.dup2 dX10_tell_38 rfl rfl ?_
  refine V.iald (i := 3) ⟨by rfl, by rfl⟩ (by rfl) (by decide) dX10_tell_39 ?_
  refine V.iconst (v := 1) dX10_tell_40 (by decide) ?_
  refine V.iadd dX10_tell_41 ?_
  refine V.iast (i := 3) ⟨by rfl, by rfl⟩ (by rfl) (by decide) dX10_tell_42 ?_
  refine V.aload_n dX10_tell_43 rfl rfl ?_
  refine V.getR fX10_7 rfl (by rfl) (by rfl) dX10_tell_44 ?_
  refine V.iconst (v := 3) dX10_tell_47 (by decide) ?_
  refine V.iald (i := 3) ⟨by rfl, by rfl⟩ (by rfl) (by decide) dX10_tell_48 ?_
  exact V.iret rfl dX10_tell_49 hq
theorem bX10_check_0 {d : Nat} {b : Nat × Nat}  {im : XI} {Q : Option Value → XS → XI → Prop}   (k : V mX10_check d b 16 [some (.ref 0), some (.int (im 1 3)), some (.int (0 : Int32))] [] SM (xup im 1 3 (0 : Int32)) Q) : V mX10_check d b 0 [some (.ref 0), none, none] [] SM im Q := by
  refine V.aload_n dX10_check_0 rfl rfl ?_
  refine V.getR fX10_7 rfl (by rfl) (by rfl) dX10_check_1 ?_
  refine V.iconst (v := 3) dX10_check_4 (by decide) ?_
  refine V.iald (i := 3) ⟨by rfl, by rfl⟩ (by rfl) (by decide) dX10_check_5 ?_
  refine V.istore_n dX10_check_6 rfl rfl rfl ?_
  refine V.aload_n dX10_check_7 rfl rfl ?_
  refine V.getR fX10_7 rfl (by rfl) (by rfl) dX10_check_8 ?_
  refine V.iconst (v := 3) dX10_check_11 (by decide) ?_
  refine V.iconst (v := 0) dX10_check_12 (by decide) ?_
  refine V.iast (i := 3) ⟨by rfl, by rfl⟩ (by rfl) (by decide) dX10_check_13 ?_
  refine V.iconst (v := 0) dX10_check_14 (by decide) ?_
  refine V.istore_n dX10_check_15 rfl rfl rfl ?_
  exact k
theorem bX10_check_16 {d : Nat} {b : Nat × Nat}  {im : XI} {Q : Option Value → XS → XI → Prop} {l1 : Int32} {l2 : Int32}  (kt : l1 ≤ l2 → V mX10_check d b 58 [some (.ref 0), some (.int l1), some (.int l2)] [] SM im Q) (kf : ¬ l1 ≤ l2 → V mX10_check d b 21 [some (.ref 0), some (.int l1), some (.int l2)] [] SM im Q) : V mX10_check d b 16 [some (.ref 0), some (.int l1), some (.int l2)] [] SM im Q := by
  refine V.iload_n dX10_check_16 rfl rfl ?_
  refine V.iload_n dX10_check_17 rfl rfl ?_
  refine V.icmp_ge (tgt := 58) dX10_check_18 (by decide) (fun h => ?_) (fun h => ?_)
  · exact kt h
  · exact kf h
theorem bX10_check_21 {d : Nat} {b : Nat × Nat}  {im : XI} {Q : Option Value → XS → XI → Prop} {l1 : Int32} {l2 : Int32} {P : Int32 → XI → Prop}  (hs : SpI mX10_isDoing d [.ref 0, .int l2] SM im P) (k : ∀ x2 im2, P x2 im2 → V mX10_check (d + 1) b 26 [some (.ref 0), some (.int l1), some (.int l2)] [.int x2] SM im2 Q) : V mX10_check (d + 1) b 21 [some (.ref 0), some (.int l1), some (.int l2)] [] SM im Q := by
  refine V.aload_n dX10_check_21 rfl rfl ?_
  refine V.iload_n dX10_check_22 rfl rfl ?_
  refine V.cVI rfl vX10_isDoing lkX10_178 wX10_isDoing (ci := 10) rfl (by rfl) (As := [.int l2]) rfl rfl rfl dX10_check_23 hs (fun x2 im2 h2 => ?_)
  exact k x2 im2 h2
theorem bX10_check_26 {d : Nat} {b : Nat × Nat}  {im : XI} {Q : Option Value → XS → XI → Prop} {l1 : Int32} {l2 : Int32} {s0 : Int32}  (kt : s0 = 0 → V mX10_check d b 48 [some (.ref 0), some (.int l1), some (.int l2)] [] SM im Q) (kf : ¬ s0 = 0 → V mX10_check d b 29 [some (.ref 0), some (.int l1), some (.int l2)] [] SM im Q) : V mX10_check d b 26 [some (.ref 0), some (.int l1), some (.int l2)] [.int s0] SM im Q := by
  refine V.if_eq (tgt := 48) dX10_check_26 (by decide) (fun h => ?_) (fun h => ?_)
  · exact kt h
  · exact kf h
theorem bX10_check_29 {d : Nat} {b : Nat × Nat}  {im : XI} {Q : Option Value → XS → XI → Prop} {l1 : Int32} {l2 : Int32} {i1 : Nat} {P : Int32 → XI → Prop} (g0 : ((360 : Int32) + l2) = nI i1) (g1 : i1 < 384) (hs : SpI mX10_ofDoing d [.ref 0, .int l2, .int (1 : Int32)] SM im P) (k : ∀ x2 im2, P x2 im2 → V mX10_check (d + 1) b 45 [some (.ref 0), some (.int l1), some (.int l2)] [.int x2, .int (im 1 i1)] SM im2 Q) : V mX10_check (d + 1) b 29 [some (.ref 0), some (.int l1), some (.int l2)] [] SM im Q := by
  refine V.aload_n dX10_check_29 rfl rfl ?_
  refine V.getR fX10_7 rfl (by rfl) (by rfl) dX10_check_30 ?_
  refine V.sipush (v := 360) dX10_check_33 (by decide) ?_
  refine V.iload_n dX10_check_36 rfl rfl ?_
  refine V.iadd dX10_check_37 ?_
  refine V.iald (i := i1) ⟨by rfl, by rfl⟩ g0 g1 dX10_check_38 ?_
  refine V.aload_n dX10_check_39 rfl rfl ?_
  refine V.iload_n dX10_check_40 rfl rfl ?_
  refine V.iconst (v := 1) dX10_check_41 (by decide) ?_
  refine V.cVI rfl vX10_ofDoing lkX10_130 wX10_ofDoing (ci := 10) rfl (by rfl) (As := [.int l2, .int (1 : Int32)]) rfl rfl rfl dX10_check_42 hs (fun x2 im2 h2 => ?_)
  exact k x2 im2 h2
theorem bX10_check_45 {d : Nat} {b : Nat × Nat}  {im : XI} {Q : Option Value → XS → XI → Prop} {l1 : Int32} {l2 : Int32} {s0 : Int32} {s1 : Int32}  (kt : s0 = s1 → V mX10_check d b 52 [some (.ref 0), some (.int l1), some (.int l2)] [] SM im Q) (kf : ¬ s0 = s1 → V mX10_check d b 48 [some (.ref 0), some (.int l1), some (.int l2)] [] SM im Q) : V mX10_check d b 45 [some (.ref 0), some (.int l1), some (.int l2)] [.int s1, .int s0] SM im Q := by
  refine V.icmp_eq (tgt := 52) dX10_check_45 (by decide) (fun h => ?_) (fun h => ?_)
  · exact kt h
  · exact kf h
theorem bX10_check_48 {d : Nat} {b : Nat × Nat}  {im : XI} {Q : Option Value → XS → XI → Prop} {l1 : Int32} {l2 : Int32}  (hq : Q (some (.int ((1 : Int32) + l2))) SM im) : V mX10_check d b 48 [some (.ref 0), some (.int l1), some (.int l2)] [] SM im Q := by
  refine V.iconst (v := 1) dX10_check_48 (by decide) ?_
  refine V.iload_n dX10_check_49 rfl rfl ?_
  refine V.iadd dX10_check_50 ?_
  exact V.iret rfl dX10_check_51 hq
theorem bX10_check_52 {d : Nat} {b : Nat × Nat}  {im : XI} {Q : Option Value → XS → XI → Prop} {l1 : Int32} {l2 : Int32}  (k : V mX10_check d b 16 [some (.ref 0), some (.int l1), some (.int (l2 + (1 : Int32)))] [] SM im Q) : V mX10_check d b 52 [some (.ref 0), some (.int l1), some (.int l2)] [] SM im Q := by
  refine V.iinc (v := (l2 + (1 : Int32))) dX10_check_52 rfl rfl rfl ?_
  refine V.goto (tgt := 16) dX10_check_55 (by decide) ?_
  exact k
theorem bX10_check_58 {d : Nat} {b : Nat × Nat}  {im : XI} {Q : Option Value → XS → XI → Prop} {l1 : Int32} {l2 : Int32}  (hq : Q (some (.int (0 : Int32))) SM im) : V mX10_check d b 58 [some (.ref 0), some (.int l1), some (.int l2)] [] SM im Q := by
  refine V.iconst (v := 0) dX10_check_58 (by decide) ?_
  exact V.iret rfl dX10_check_59 hq
theorem bX10_allParts_0 {d : Nat} {b : Nat × Nat}  {im : XI} {Q : Option Value → XS → XI → Prop}   (k : V mX10_allParts d b 4 [some (.ref 0), some (.int (0 : Int32)), some (.int (0 : Int32))] [] SM im Q) : V mX10_allParts d b 0 [some (.ref 0), none, none] [] SM im Q := by
  refine V.iconst (v := 0) dX10_allParts_0 (by decide) ?_
  refine V.istore_n dX10_allParts_1 rfl rfl rfl ?_
  refine V.iconst (v := 0) dX10_allParts_2 (by decide) ?_
  refine V.istore_n dX10_allParts_3 rfl rfl rfl ?_
  exact k
theorem bX10_allParts_4 {d : Nat} {b : Nat × Nat}  {im : XI} {Q : Option Value → XS → XI → Prop} {l1 : Int32} {l2 : Int32}  (kt : (im 1 5) ≤ l2 → V mX10_allParts d b 29 [some (.ref 0), some (.int l1), some (.int l2)] [] SM im Q) (kf : ¬ (im 1 5) ≤ l2 → V mX10_allParts d b 14 [some (.ref 0), some (.int l1), some (.int l2)] [] SM im Q) : V mX10_allParts d b 4 [some (.ref 0), some (.int l1), some (.int l2)] [] SM im Q := by
  refine V.iload_n dX10_allParts_4 rfl rfl ?_
  refine V.aload_n dX10_allParts_5 rfl rfl ?_
  refine V.getR fX10_7 rfl (by rfl) (by rfl) dX10_allParts_6 ?_
  refine V.iconst (v := 5) dX10_allParts_9 (by decide) ?_
  refine V.iald (i := 5) ⟨by rfl, by rfl⟩ (by rfl) (by decide) dX10_allParts_10 ?_
  refine V.icmp_ge (tgt := 29) dX10_allParts_11 (by decide) (fun h => ?_) (fun h => ?_)
  · exact kt h
  · exact kf h
theorem bX10_allParts_14 {d : Nat} {b : Nat × Nat}  {im : XI} {Q : Option Value → XS → XI → Prop} {l1 : Int32} {l2 : Int32} {P : Int32 → XI → Prop}  (hs : SpI mX10_ofDoing d [.ref 0, .int l2, .int (1 : Int32)] SM im P) (k : ∀ x2 im2, P x2 im2 → V mX10_allParts (d + 1) b 21 [some (.ref 0), some (.int l1), some (.int l2)] [.int x2, .int l1] SM im2 Q) : V mX10_allParts (d + 1) b 14 [some (.ref 0), some (.int l1), some (.int l2)] [] SM im Q := by
  refine V.iload_n dX10_allParts_14 rfl rfl ?_
  refine V.aload_n dX10_allParts_15 rfl rfl ?_
  refine V.iload_n dX10_allParts_16 rfl rfl ?_
  refine V.iconst (v := 1) dX10_allParts_17 (by decide) ?_
  refine V.cVI rfl vX10_ofDoing lkX10_130 wX10_ofDoing (ci := 10) rfl (by rfl) (As := [.int l2, .int (1 : Int32)]) rfl rfl rfl dX10_allParts_18 hs (fun x2 im2 h2 => ?_)
  exact k x2 im2 h2
theorem bX10_allParts_21 {d : Nat} {b : Nat × Nat}  {im : XI} {Q : Option Value → XS → XI → Prop} {l1 : Int32} {l2 : Int32} {s0 : Int32} {s1 : Int32}  (k : V mX10_allParts d b 4 [some (.ref 0), some (.int (s0 + s1)), some (.int (l2 + (1 : Int32)))] [] SM im Q) : V mX10_allParts d b 21 [some (.ref 0), some (.int l1), some (.int l2)] [.int s1, .int s0] SM im Q := by
  refine V.iadd dX10_allParts_21 ?_
  refine V.istore_n dX10_allParts_22 rfl rfl rfl ?_
  refine V.iinc (v := (l2 + (1 : Int32))) dX10_allParts_23 rfl rfl rfl ?_
  refine V.goto (tgt := 4) dX10_allParts_26 (by decide) ?_
  exact k
theorem bX10_allParts_29 {d : Nat} {b : Nat × Nat}  {im : XI} {Q : Option Value → XS → XI → Prop} {l1 : Int32} {l2 : Int32}  (hq : Q (some (.int l1)) SM im) : V mX10_allParts d b 29 [some (.ref 0), some (.int l1), some (.int l2)] [] SM im Q := by
  refine V.iload_n dX10_allParts_29 rfl rfl ?_
  exact V.iret rfl dX10_allParts_30 hq
theorem bX10_count_0 {d : Nat} {b : Nat × Nat}  {im : XI} {Q : Option Value → XS → XI → Prop} {l1 : Int32}  (k0 : l1 = 0 → V mX10_count d b 48 [some (.ref 0), some (.int l1)] [] SM im Q) (k1 : l1 = 1 → V mX10_count d b 55 [some (.ref 0), some (.int l1)] [] SM im Q) (k2 : l1 = 2 → V mX10_count d b 62 [some (.ref 0), some (.int l1)] [] SM im Q) (k3 : l1 = 3 → V mX10_count d b 69 [some (.ref 0), some (.int l1)] [] SM im Q) (k4 : l1 = 4 → V mX10_count d b 74 [some (.ref 0), some (.int l1)] [] SM im Q) (k5 : l1 = 5 → V mX10_count d b 81 [some (.ref 0), some (.int l1)] [] SM im Q) (k6 : l1 = 6 → V mX10_count d b 88 [some (.ref 0), some (.int l1)] [] SM im Q) (k7 : l1 = 7 → V mX10_count d b 93 [some (.ref 0), some (.int l1)] [] SM im Q) (kd : ¬ l1 = 0 → ¬ l1 = 1 → ¬ l1 = 2 → ¬ l1 = 3 → ¬ l1 = 4 → ¬ l1 = 5 → ¬ l1 = 6 → ¬ l1 = 7 → V mX10_count d b 100 [some (.ref 0), some (.int l1)] [] SM im Q) : V mX10_count d b 0 [some (.ref 0), some (.int l1)] [] SM im Q := by
  refine V.iload_n dX10_count_0 rfl rfl ?_
  by_cases c0 : l1 = 0
  · exact V.tableIn (tgt := 48) (off := 47) dX10_count_1 (by rw [c0]; decide) (by rw [c0]; decide) (by rw [c0] <;> rfl) (by decide) (k0 c0)
  · skip
    by_cases c1 : l1 = 1
    · exact V.tableIn (tgt := 55) (off := 54) dX10_count_1 (by rw [c1]; decide) (by rw [c1]; decide) (by rw [c1] <;> rfl) (by decide) (k1 c1)
    · skip
      by_cases c2 : l1 = 2
      · exact V.tableIn (tgt := 62) (off := 61) dX10_count_1 (by rw [c2]; decide) (by rw [c2]; decide) (by rw [c2] <;> rfl) (by decide) (k2 c2)
      · skip
        by_cases c3 : l1 = 3
        · exact V.tableIn (tgt := 69) (off := 68) dX10_count_1 (by rw [c3]; decide) (by rw [c3]; decide) (by rw [c3] <;> rfl) (by decide) (k3 c3)
        · skip
          by_cases c4 : l1 = 4
          · exact V.tableIn (tgt := 74) (off := 73) dX10_count_1 (by rw [c4]; decide) (by rw [c4]; decide) (by rw [c4] <;> rfl) (by decide) (k4 c4)
          · skip
            by_cases c5 : l1 = 5
            · exact V.tableIn (tgt := 81) (off := 80) dX10_count_1 (by rw [c5]; decide) (by rw [c5]; decide) (by rw [c5] <;> rfl) (by decide) (k5 c5)
            · skip
              by_cases c6 : l1 = 6
              · exact V.tableIn (tgt := 88) (off := 87) dX10_count_1 (by rw [c6]; decide) (by rw [c6]; decide) (by rw [c6] <;> rfl) (by decide) (k6 c6)
              · skip
                by_cases c7 : l1 = 7
                · exact V.tableIn (tgt := 93) (off := 92) dX10_count_1 (by rw [c7]; decide) (by rw [c7]; decide) (by rw [c7] <;> rfl) (by decide) (k7 c7)
                · skip
                  exact V.tableOut (tgt := 100) dX10_count_1 (by have qc0 := lv_neT c0 (a := 0) rfl; have qc1 := lv_neT c1 (a := 1) rfl; have qc2 := lv_neT c2 (a := 2) rfl; have qc3 := lv_neT c3 (a := 3) rfl; have qc4 := lv_neT c4 (a := 4) rfl; have qc5 := lv_neT c5 (a := 5) rfl; have qc6 := lv_neT c6 (a := 6) rfl; have qc7 := lv_neT c7 (a := 7) rfl; omega) (by decide) (kd c0 c1 c2 c3 c4 c5 c6 c7)
theorem bX10_count_48 {d : Nat} {b : Nat × Nat}  {im : XI} {Q : Option Value → XS → XI → Prop} {l1 : Int32}  (hq : Q (some (.int (im 1 4))) SM im) : V mX10_count d b 48 [some (.ref 0), some (.int l1)] [] SM im Q := by
  refine V.aload_n dX10_count_48 rfl rfl ?_
  refine V.getR fX10_7 rfl (by rfl) (by rfl) dX10_count_49 ?_
  refine V.iconst (v := 4) dX10_count_52 (by decide) ?_
  refine V.iald (i := 4) ⟨by rfl, by rfl⟩ (by rfl) (by decide) dX10_count_53 ?_
  exact V.iret rfl dX10_count_54 hq
theorem bX10_count_55 {d : Nat} {b : Nat × Nat}  {im : XI} {Q : Option Value → XS → XI → Prop} {l1 : Int32}  (hq : Q (some (.int (im 1 5))) SM im) : V mX10_count d b 55 [some (.ref 0), some (.int l1)] [] SM im Q := by
  refine V.aload_n dX10_count_55 rfl rfl ?_
  refine V.getR fX10_7 rfl (by rfl) (by rfl) dX10_count_56 ?_
  refine V.iconst (v := 5) dX10_count_59 (by decide) ?_
  refine V.iald (i := 5) ⟨by rfl, by rfl⟩ (by rfl) (by decide) dX10_count_60 ?_
  exact V.iret rfl dX10_count_61 hq
theorem bX10_count_62 {d : Nat} {b : Nat × Nat}  {im : XI} {Q : Option Value → XS → XI → Prop} {l1 : Int32}  (hq : Q (some (.int (im 1 0))) SM im) : V mX10_count d b 62 [some (.ref 0), some (.int l1)] [] SM im Q := by
  refine V.aload_n dX10_count_62 rfl rfl ?_
  refine V.getR fX10_7 rfl (by rfl) (by rfl) dX10_count_63 ?_
  refine V.iconst (v := 0) dX10_count_66 (by decide) ?_
  refine V.iald (i := 0) ⟨by rfl, by rfl⟩ (by rfl) (by decide) dX10_count_67 ?_
  exact V.iret rfl dX10_count_68 hq
theorem bX10_count_69 {d : Nat} {b : Nat × Nat}  {im : XI} {Q : Option Value → XS → XI → Prop} {l1 : Int32} {P : Int32 → XI → Prop}  (hs : SpI mX10_allParts d [.ref 0] SM im P) (k : ∀ x2 im2, P x2 im2 → V mX10_count (d + 1) b 73 [some (.ref 0), some (.int l1)] [.int x2] SM im2 Q) : V mX10_count (d + 1) b 69 [some (.ref 0), some (.int l1)] [] SM im Q := by
  refine V.aload_n dX10_count_69 rfl rfl ?_
  refine V.cVI rfl vX10_allParts lkX10_264 wX10_allParts (ci := 10) rfl (by rfl) (As := []) rfl rfl rfl dX10_count_70 hs (fun x2 im2 h2 => ?_)
  exact k x2 im2 h2
theorem bX10_count_73 {d : Nat} {b : Nat × Nat}  {im : XI} {Q : Option Value → XS → XI → Prop} {l1 : Int32} {s0 : Int32}  (hq : Q (some (.int s0)) SM im) : V mX10_count d b 73 [some (.ref 0), some (.int l1)] [.int s0] SM im Q := by
  exact V.iret rfl dX10_count_73 hq
theorem bX10_count_74 {d : Nat} {b : Nat × Nat}  {im : XI} {Q : Option Value → XS → XI → Prop} {l1 : Int32}  (hq : Q (some (.int (im 1 2))) SM im) : V mX10_count d b 74 [some (.ref 0), some (.int l1)] [] SM im Q := by
  refine V.aload_n dX10_count_74 rfl rfl ?_
  refine V.getR fX10_7 rfl (by rfl) (by rfl) dX10_count_75 ?_
  refine V.iconst (v := 2) dX10_count_78 (by decide) ?_
  refine V.iald (i := 2) ⟨by rfl, by rfl⟩ (by rfl) (by decide) dX10_count_79 ?_
  exact V.iret rfl dX10_count_80 hq
theorem bX10_count_81 {d : Nat} {b : Nat × Nat}  {im : XI} {Q : Option Value → XS → XI → Prop} {l1 : Int32}  (hq : Q (some (.int (im 1 3))) SM im) : V mX10_count d b 81 [some (.ref 0), some (.int l1)] [] SM im Q := by
  refine V.aload_n dX10_count_81 rfl rfl ?_
  refine V.getR fX10_7 rfl (by rfl) (by rfl) dX10_count_82 ?_
  refine V.iconst (v := 3) dX10_count_85 (by decide) ?_
  refine V.iald (i := 3) ⟨by rfl, by rfl⟩ (by rfl) (by decide) dX10_count_86 ?_
  exact V.iret rfl dX10_count_87 hq
theorem bX10_count_88 {d : Nat} {b : Nat × Nat}  {im : XI} {Q : Option Value → XS → XI → Prop} {l1 : Int32}  (hq : Q (some (.int (im 0 12))) SM im) : V mX10_count d b 88 [some (.ref 0), some (.int l1)] [] SM im Q := by
  refine V.aload_n dX10_count_88 rfl rfl ?_
  refine V.getI fX10_222 rfl (by rfl) dX10_count_89 ?_
  exact V.iret rfl dX10_count_92 hq
theorem bX10_count_93 {d : Nat} {b : Nat × Nat}  {im : XI} {Q : Option Value → XS → XI → Prop} {l1 : Int32}  (hq : Q (some (.int (im 1 1))) SM im) : V mX10_count d b 93 [some (.ref 0), some (.int l1)] [] SM im Q := by
  refine V.aload_n dX10_count_93 rfl rfl ?_
  refine V.getR fX10_7 rfl (by rfl) (by rfl) dX10_count_94 ?_
  refine V.iconst (v := 1) dX10_count_97 (by decide) ?_
  refine V.iald (i := 1) ⟨by rfl, by rfl⟩ (by rfl) (by decide) dX10_count_98 ?_
  exact V.iret rfl dX10_count_99 hq
theorem bX10_count_100 {d : Nat} {b : Nat × Nat}  {im : XI} {Q : Option Value → XS → XI → Prop} {l1 : Int32} {P : Int32 → XI → Prop}  (hs : SpI mX10_error d [.ref 0, .int (1 : Int32)] SM im P) (k : ∀ x2 im2, P x2 im2 → V mX10_count (d + 1) b 105 [some (.ref 0), some (.int l1)] [.int x2] SM im2 Q) : V mX10_count (d + 1) b 100 [some (.ref 0), some (.int l1)] [] SM im Q := by
  refine V.aload_n dX10_count_100 rfl rfl ?_
  refine V.iconst (v := 1) dX10_count_101 (by decide) ?_
  refine V.cVI rfl vX10_error lkX10_51 wX10_error (ci := 10) rfl (by rfl) (As := [.int (1 : Int32)]) rfl rfl rfl dX10_count_102 hs (fun x2 im2 h2 => ?_)
  exact k x2 im2 h2
theorem bX10_count_105 {d : Nat} {b : Nat × Nat}  {im : XI} {Q : Option Value → XS → XI → Prop} {l1 : Int32} {s0 : Int32}  (hq : Q (some (.int s0)) SM im) : V mX10_count d b 105 [some (.ref 0), some (.int l1)] [.int s0] SM im Q := by
  exact V.iret rfl dX10_count_105 hq
theorem bX10_told_0 {d : Nat} {b : Nat × Nat}  {im : XI} {Q : Option Value → XS → XI → Prop} {l1 : Int32} {P : Int32 → XI → Prop}  (hs : SpI mX10_in d [.int l1, .int (1 : Int32), .int (6 : Int32)] SM im P) (k : ∀ x2 im2, P x2 im2 → V mX10_told (d + 1) b 7 [some (.ref 0), some (.int l1)] [.int x2] SM im2 Q) : V mX10_told (d + 1) b 0 [some (.ref 0), some (.int l1)] [] SM im Q := by
  refine V.iload_n dX10_told_0 rfl rfl ?_
  refine V.iconst (v := 1) dX10_told_1 (by decide) ?_
  refine V.bipush (v := 6) dX10_told_2 (by decide) ?_
  refine V.cSI rfl vX10_in lkX10_47 sX10_in (As := [.int l1, .int (1 : Int32), .int (6 : Int32)]) rfl rfl rfl dX10_told_4 hs (fun x2 im2 h2 => ?_)
  exact k x2 im2 h2
theorem bX10_told_7 {d : Nat} {b : Nat × Nat}  {im : XI} {Q : Option Value → XS → XI → Prop} {l1 : Int32} {s0 : Int32}  (kt : s0 = 0 → V mX10_told d b 19 [some (.ref 0), some (.int l1)] [] SM im Q) (kf : ¬ s0 = 0 → V mX10_told d b 10 [some (.ref 0), some (.int l1)] [] SM im Q) : V mX10_told d b 7 [some (.ref 0), some (.int l1)] [.int s0] SM im Q := by
  refine V.if_eq (tgt := 19) dX10_told_7 (by decide) (fun h => ?_) (fun h => ?_)
  · exact kt h
  · exact kf h
theorem bX10_told_10 {d : Nat} {b : Nat × Nat}  {im : XI} {Q : Option Value → XS → XI → Prop} {l1 : Int32} {i1 : Nat} (g0 : l1 = nI i1) (g1 : i1 < 7) (k : V mX10_told d b 24 [some (.ref 0), some (.int l1)] [.int (im 4 i1)] SM im Q) : V mX10_told d b 10 [some (.ref 0), some (.int l1)] [] SM im Q := by
  refine V.aload_n dX10_told_10 rfl rfl ?_
  refine V.getR fX10_19 rfl (by rfl) (by rfl) dX10_told_11 ?_
  refine V.iload_n dX10_told_14 rfl rfl ?_
  refine V.iald (i := i1) ⟨by rfl, by rfl⟩ g0 g1 dX10_told_15 ?_
  refine V.goto (tgt := 24) dX10_told_16 (by decide) ?_
  exact k
theorem bX10_told_19 {d : Nat} {b : Nat × Nat}  {im : XI} {Q : Option Value → XS → XI → Prop} {l1 : Int32} {P : Int32 → XI → Prop}  (hs : SpI mX10_error d [.ref 0, .int (1 : Int32)] SM im P) (k : ∀ x2 im2, P x2 im2 → V mX10_told (d + 1) b 24 [some (.ref 0), some (.int l1)] [.int x2] SM im2 Q) : V mX10_told (d + 1) b 19 [some (.ref 0), some (.int l1)] [] SM im Q := by
  refine V.aload_n dX10_told_19 rfl rfl ?_
  refine V.iconst (v := 1) dX10_told_20 (by decide) ?_
  refine V.cVI rfl vX10_error lkX10_51 wX10_error (ci := 10) rfl (by rfl) (As := [.int (1 : Int32)]) rfl rfl rfl dX10_told_21 hs (fun x2 im2 h2 => ?_)
  exact k x2 im2 h2
theorem bX10_told_24 {d : Nat} {b : Nat × Nat}  {im : XI} {Q : Option Value → XS → XI → Prop} {l1 : Int32} {s0 : Int32}  (hq : Q (some (.int s0)) SM im) : V mX10_told d b 24 [some (.ref 0), some (.int l1)] [.int s0] SM im Q := by
  exact V.iret rfl dX10_told_24 hq

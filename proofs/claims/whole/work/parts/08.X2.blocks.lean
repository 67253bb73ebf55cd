theorem bX2_init_0 {d : Nat} {b : Nat × Nat} {S : XS} {im : XI} {Q : Option Value → XS → XI → Prop} {l0 : Nat}  (k : V mX2_init (d + 1) b 4 [some (.ref l0), none] [] S im Q) : V mX2_init (d + 1) b 0 [some (.ref l0), none] [] S im Q := by
  refine V.aload_n dX2_init_0 rfl rfl ?_
  refine V.objInit rfl lkX2_3 xoi_in xoi_code rfl dX2_init_1 ?_
  exact k
theorem bX2_init_4 {d : Nat} {b : Nat × Nat} {S : XS} {im : XI} {Q : Option Value → XS → XI → Prop} {l0 : Nat} {b1 : Nat × Nat} (g0 : 1 + b1.1 ≤ b.1 ∧ 6 + b1.2 ≤ b.2) (g1 : ((xpush S (.inr (.inr (0, 6))))).1[l0]? = some (.inl 2)) (k : V mX2_init d b1 13 [some (.ref l0), none] [] (((xpush S (.inr (.inr (0, 6))))).1, xur ((xpush S (.inr (.inr (0, 6))))).2 l0 0 (some S.1.length)) (xz im S.1.length) Q) : V mX2_init d b 4 [some (.ref l0), none] [] S im Q := by
  refine V.aload_n dX2_init_4 rfl rfl ?_
  refine V.bipush (v := 6) dX2_init_5 (by decide) ?_
  refine V.newq (t := 0) (n := 6) rfl rfl rfl nqX2_9 g0 dX2_init_7 ?_
  refine V.putR fX2_11 (fun _ => ⟨rfl, TX2, 10, rfl⟩) rfl rfl g1 dX2_init_10 ?_
  exact k
theorem bX2_init_13 {d : Nat} {b : Nat × Nat} {S : XS} {im : XI} {Q : Option Value → XS → XI → Prop} {l0 : Nat} {b1 : Nat × Nat} (g0 : 1 + b1.1 ≤ b.1 ∧ 6 + b1.2 ≤ b.2) (g1 : ((xpush S (.inr (.inr (1, 6))))).1[l0]? = some (.inl 2)) (k : V mX2_init d b1 22 [some (.ref l0), none] [] (((xpush S (.inr (.inr (1, 6))))).1, xur ((xpush S (.inr (.inr (1, 6))))).2 l0 1 (some S.1.length)) (xz im S.1.length) Q) : V mX2_init d b 13 [some (.ref l0), none] [] S im Q := by
  refine V.aload_n dX2_init_13 rfl rfl ?_
  refine V.bipush (v := 6) dX2_init_14 (by decide) ?_
  refine V.newq (t := 1) (n := 6) rfl rfl rfl nqX2_17 g0 dX2_init_16 ?_
  refine V.putR fX2_19 (fun _ => ⟨rfl, TX2, 10, rfl⟩) rfl rfl g1 dX2_init_19 ?_
  exact k
theorem bX2_init_22 {d : Nat} {b : Nat × Nat} {S : XS} {im : XI} {Q : Option Value → XS → XI → Prop} {l0 : Nat} {b1 : Nat × Nat} {P : XS → XI → Prop} {bc be : Nat × Nat} (g0 : 1 + b1.1 ≤ b.1 ∧ 4 + b1.2 ≤ b.2) (hs : SpC mX3_init d bc [.ref S.1.length, .int (0 : Int32)] (xpush S (.inl 3)) (xz im S.1.length) P) (hbud : bc.1 + be.1 ≤ b1.1 ∧ bc.2 + be.2 ≤ b1.2) (hP : ∀ S2 im2, P S2 im2 → S2.1.length = ((xpush S (.inl 3))).1.length + bc.1) (k : ∀ S2 im2, P S2 im2 → V mX2_init (d + 1) be 31 [some (.ref l0), none] [.ref S.1.length, .ref l0] S2 im2 Q) : V mX2_init (d + 1) b 22 [some (.ref l0), none] [] S im Q := by
  refine V.aload_n dX2_init_22 rfl rfl ?_
  refine V.new (ci := 3) rfl nwX2_23.1 nwX2_23.2.1 nwX2_23.2.2 g0 dX2_init_23 ?_
  refine V.dup dX2_init_26 rfl ?_
  refine V.iconst (v := 0) dX2_init_27 (by decide) ?_
  refine V.cC rfl vX3_init lkX2_25 wX3_init rfl rfl (As := [.int (0 : Int32)]) rfl rfl rfl dX2_init_28 hs hbud hP (fun S2 im2 h2 => ?_)
  exact k S2 im2 h2
theorem bX2_init_31 {d : Nat} {b : Nat × Nat} {S : XS} {im : XI} {Q : Option Value → XS → XI → Prop} {l0 : Nat} {s0 : Nat} {s1 : Nat} (g0 : S.1[s0]? = some (.inl 2)) (k : V mX2_init d b 34 [some (.ref l0), none] [] (S.1, xur S.2 s0 2 (some s1)) im Q) : V mX2_init d b 31 [some (.ref l0), none] [.ref s1, .ref s0] S im Q := by
  refine V.putR fX2_28 (fun _ => ⟨rfl, TX2, 10, rfl⟩) rfl rfl g0 dX2_init_31 ?_
  exact k
theorem bX2_init_34 {d : Nat} {b : Nat × Nat} {S : XS} {im : XI} {Q : Option Value → XS → XI → Prop} {l0 : Nat} {b1 : Nat × Nat} {P : XS → XI → Prop} {bc be : Nat × Nat} (g0 : 1 + b1.1 ≤ b.1 ∧ 4 + b1.2 ≤ b.2) (hs : SpC mX3_init d bc [.ref S.1.length, .int (1 : Int32)] (xpush S (.inl 3)) (xz im S.1.length) P) (hbud : bc.1 + be.1 ≤ b1.1 ∧ bc.2 + be.2 ≤ b1.2) (hP : ∀ S2 im2, P S2 im2 → S2.1.length = ((xpush S (.inl 3))).1.length + bc.1) (k : ∀ S2 im2, P S2 im2 → V mX2_init (d + 1) be 43 [some (.ref l0), none] [.ref S.1.length, .ref l0] S2 im2 Q) : V mX2_init (d + 1) b 34 [some (.ref l0), none] [] S im Q := by
  refine V.aload_n dX2_init_34 rfl rfl ?_
  refine V.new (ci := 3) rfl nwX2_23.1 nwX2_23.2.1 nwX2_23.2.2 g0 dX2_init_35 ?_
  refine V.dup dX2_init_38 rfl ?_
  refine V.iconst (v := 1) dX2_init_39 (by decide) ?_
  refine V.cC rfl vX3_init lkX2_25 wX3_init rfl rfl (As := [.int (1 : Int32)]) rfl rfl rfl dX2_init_40 hs hbud hP (fun S2 im2 h2 => ?_)
  exact k S2 im2 h2
theorem bX2_init_43 {d : Nat} {b : Nat × Nat} {S : XS} {im : XI} {Q : Option Value → XS → XI → Prop} {l0 : Nat} {s0 : Nat} {s1 : Nat} (g0 : S.1[s0]? = some (.inl 2)) (k : V mX2_init d b 46 [some (.ref l0), none] [] (S.1, xur S.2 s0 3 (some s1)) im Q) : V mX2_init d b 43 [some (.ref l0), none] [.ref s1, .ref s0] S im Q := by
  refine V.putR fX2_32 (fun _ => ⟨rfl, TX2, 10, rfl⟩) rfl rfl g0 dX2_init_43 ?_
  exact k
theorem bX2_init_46 {d : Nat} {b : Nat × Nat} {S : XS} {im : XI} {Q : Option Value → XS → XI → Prop} {l0 : Nat} {b1 : Nat × Nat} {P : XS → XI → Prop} {bc be : Nat × Nat} (g0 : 1 + b1.1 ≤ b.1 ∧ 2 + b1.2 ≤ b.2) (hs : SpC mX6_init d bc [.ref S.1.length, .int (60 : Int32)] (xpush S (.inl 6)) (xz im S.1.length) P) (hbud : bc.1 + be.1 ≤ b1.1 ∧ bc.2 + be.2 ≤ b1.2) (hP : ∀ S2 im2, P S2 im2 → S2.1.length = ((xpush S (.inl 6))).1.length + bc.1) (k : ∀ S2 im2, P S2 im2 → V mX2_init (d + 1) be 56 [some (.ref l0), none] [.ref S.1.length, .ref l0] S2 im2 Q) : V mX2_init (d + 1) b 46 [some (.ref l0), none] [] S im Q := by
  refine V.aload_n dX2_init_46 rfl rfl ?_
  refine V.new (ci := 6) rfl nwX2_35.1 nwX2_35.2.1 nwX2_35.2.2 g0 dX2_init_47 ?_
  refine V.dup dX2_init_50 rfl ?_
  refine V.bipush (v := 60) dX2_init_51 (by decide) ?_
  refine V.cC rfl vX6_init lkX2_37 wX6_init rfl rfl (As := [.int (60 : Int32)]) rfl rfl rfl dX2_init_53 hs hbud hP (fun S2 im2 h2 => ?_)
  exact k S2 im2 h2
theorem bX2_init_56 {d : Nat} {b : Nat × Nat} {S : XS} {im : XI} {Q : Option Value → XS → XI → Prop} {l0 : Nat} {s0 : Nat} {s1 : Nat} (g0 : S.1[s0]? = some (.inl 2)) (k : V mX2_init d b 59 [some (.ref l0), none] [] (S.1, xur S.2 s0 4 (some s1)) im Q) : V mX2_init d b 56 [some (.ref l0), none] [.ref s1, .ref s0] S im Q := by
  refine V.putR fX2_38 (fun _ => ⟨rfl, TX2, 10, rfl⟩) rfl rfl g0 dX2_init_56 ?_
  exact k
theorem bX2_init_59 {d : Nat} {b : Nat × Nat} {S : XS} {im : XI} {Q : Option Value → XS → XI → Prop} {l0 : Nat} {b1 : Nat × Nat} {P : XS → XI → Prop} {bc be : Nat × Nat} (g0 : 1 + b1.1 ≤ b.1 ∧ 2 + b1.2 ≤ b.2) (hs : SpC mX6_init d bc [.ref S.1.length, .int (24 : Int32)] (xpush S (.inl 6)) (xz im S.1.length) P) (hbud : bc.1 + be.1 ≤ b1.1 ∧ bc.2 + be.2 ≤ b1.2) (hP : ∀ S2 im2, P S2 im2 → S2.1.length = ((xpush S (.inl 6))).1.length + bc.1) (k : ∀ S2 im2, P S2 im2 → V mX2_init (d + 1) be 69 [some (.ref l0), none] [.ref S.1.length, .ref l0] S2 im2 Q) : V mX2_init (d + 1) b 59 [some (.ref l0), none] [] S im Q := by
  refine V.aload_n dX2_init_59 rfl rfl ?_
  refine V.new (ci := 6) rfl nwX2_35.1 nwX2_35.2.1 nwX2_35.2.2 g0 dX2_init_60 ?_
  refine V.dup dX2_init_63 rfl ?_
  refine V.bipush (v := 24) dX2_init_64 (by decide) ?_
  refine V.cC rfl vX6_init lkX2_37 wX6_init rfl rfl (As := [.int (24 : Int32)]) rfl rfl rfl dX2_init_66 hs hbud hP (fun S2 im2 h2 => ?_)
  exact k S2 im2 h2
theorem bX2_init_69 {d : Nat} {b : Nat × Nat} {S : XS} {im : XI} {Q : Option Value → XS → XI → Prop} {l0 : Nat} {s0 : Nat} {s1 : Nat} (g0 : S.1[s0]? = some (.inl 2)) (k : V mX2_init d b 72 [some (.ref l0), none] [] (S.1, xur S.2 s0 5 (some s1)) im Q) : V mX2_init d b 69 [some (.ref l0), none] [.ref s1, .ref s0] S im Q := by
  refine V.putR fX2_42 (fun _ => ⟨rfl, TX2, 10, rfl⟩) rfl rfl g0 dX2_init_69 ?_
  exact k
theorem bX2_init_72 {d : Nat} {b : Nat × Nat} {S : XS} {im : XI} {Q : Option Value → XS → XI → Prop} {l0 : Nat} (g0 : S.1[l0]? = some (.inl 2)) (k : V mX2_init d b 77 [some (.ref l0), none] [] S (xup im l0 9 (1 : Int32)) Q) : V mX2_init d b 72 [some (.ref l0), none] [] S im Q := by
  refine V.aload_n dX2_init_72 rfl rfl ?_
  refine V.iconst (v := 1) dX2_init_73 (by decide) ?_
  refine V.putI fX2_45 (fun h => by cases h) rfl g0 dX2_init_74 ?_
  exact k
theorem bX2_init_77 {d : Nat} {b : Nat × Nat} {S : XS} {im : XI} {Q : Option Value → XS → XI → Prop} {l0 : Nat}  (k : V mX2_init d b 79 [some (.ref l0), some (.int (0 : Int32))] [] S im Q) : V mX2_init d b 77 [some (.ref l0), none] [] S im Q := by
  refine V.iconst (v := 0) dX2_init_77 (by decide) ?_
  refine V.istore_n dX2_init_78 rfl rfl rfl ?_
  exact k
theorem bX2_init_79 {d : Nat} {b : Nat × Nat} {S : XS} {im : XI} {Q : Option Value → XS → XI → Prop} {l0 : Nat} {l1 : Int32}  (kt : (6 : Int32) ≤ l1 → V mX2_init d b 104 [some (.ref l0), some (.int l1)] [] S im Q) (kf : ¬ (6 : Int32) ≤ l1 → V mX2_init d b 85 [some (.ref l0), some (.int l1)] [] S im Q) : V mX2_init d b 79 [some (.ref l0), some (.int l1)] [] S im Q := by
  refine V.iload_n dX2_init_79 rfl rfl ?_
  refine V.bipush (v := 6) dX2_init_80 (by decide) ?_
  refine V.icmp_ge (tgt := 104) dX2_init_82 (by decide) (fun h => ?_) (fun h => ?_)
  · exact kt h
  · exact kf h
theorem bX2_init_85 {d : Nat} {b : Nat × Nat} {S : XS} {im : XI} {Q : Option Value → XS → XI → Prop} {l0 : Nat} {l1 : Int32} {r1 : Nat} {b1 : Nat × Nat} {P : XS → XI → Prop} {bc be : Nat × Nat} (g0 : S.1[l0]? = some (.inl 2)) (g1 : S.2 l0 0 = some r1) (g2 : 1 + b1.1 ≤ b.1 ∧ 4 + b1.2 ≤ b.2) (hs : SpC mX4_init d bc [.ref S.1.length] (xpush S (.inl 4)) (xz im S.1.length) P) (hbud : bc.1 + be.1 ≤ b1.1 ∧ bc.2 + be.2 ≤ b1.2) (hP : ∀ S2 im2, P S2 im2 → S2.1.length = ((xpush S (.inl 4))).1.length + bc.1) (k : ∀ S2 im2, P S2 im2 → V mX2_init (d + 1) be 97 [some (.ref l0), some (.int l1)] [.ref S.1.length, .int l1, .ref r1] S2 im2 Q) : V mX2_init (d + 1) b 85 [some (.ref l0), some (.int l1)] [] S im Q := by
  refine V.aload_n dX2_init_85 rfl rfl ?_
  refine V.getR fX2_11 rfl g0 g1 dX2_init_86 ?_
  refine V.iload_n dX2_init_89 rfl rfl ?_
  refine V.new (ci := 4) rfl nwX2_9.1 nwX2_9.2.1 nwX2_9.2.2 g2 dX2_init_90 ?_
  refine V.dup dX2_init_93 rfl ?_
  refine V.cC rfl vX4_init lkX2_49 wX4_init rfl rfl (As := []) rfl rfl rfl dX2_init_94 hs hbud hP (fun S2 im2 h2 => ?_)
  exact k S2 im2 h2
theorem bX2_init_97 {d : Nat} {b : Nat × Nat} {S : XS} {im : XI} {Q : Option Value → XS → XI → Prop} {l0 : Nat} {l1 : Int32} {s0 : Nat} {s1 : Int32} {s2 : Nat} {n1 : Nat} {i2 : Nat} (g0 : XG S s0 0 n1) (g1 : s1 = nI i2) (g2 : i2 < n1) (g3 : S.1[s2]? = some (.inl 4)) (k : V mX2_init d b 98 [some (.ref l0), some (.int l1)] [] (S.1, xur S.2 s0 i2 (some s2)) im Q) : V mX2_init d b 97 [some (.ref l0), some (.int l1)] [.ref s2, .int s1, .ref s0] S im Q := by
  refine V.aast (i := i2) (ci := 4) g0 g1 g2 g3 rfl dX2_init_97 ?_
  exact k
theorem bX2_init_98 {d : Nat} {b : Nat × Nat} {S : XS} {im : XI} {Q : Option Value → XS → XI → Prop} {l0 : Nat} {l1 : Int32}  (k : V mX2_init d b 79 [some (.ref l0), some (.int (l1 + (1 : Int32)))] [] S im Q) : V mX2_init d b 98 [some (.ref l0), some (.int l1)] [] S im Q := by
  refine V.iinc (v := (l1 + (1 : Int32))) dX2_init_98 rfl rfl rfl ?_
  refine V.goto (tgt := 79) dX2_init_101 (by decide) ?_
  exact k
theorem bX2_init_104 {d : Nat} {b : Nat × Nat} {S : XS} {im : XI} {Q : Option Value → XS → XI → Prop} {l0 : Nat} {l1 : Int32}  (k : V mX2_init d b 106 [some (.ref l0), some (.int (0 : Int32))] [] S im Q) : V mX2_init d b 104 [some (.ref l0), some (.int l1)] [] S im Q := by
  refine V.iconst (v := 0) dX2_init_104 (by decide) ?_
  refine V.istore_n dX2_init_105 rfl rfl rfl ?_
  exact k
theorem bX2_init_106 {d : Nat} {b : Nat × Nat} {S : XS} {im : XI} {Q : Option Value → XS → XI → Prop} {l0 : Nat} {l1 : Int32}  (kt : (6 : Int32) ≤ l1 → V mX2_init d b 131 [some (.ref l0), some (.int l1)] [] S im Q) (kf : ¬ (6 : Int32) ≤ l1 → V mX2_init d b 112 [some (.ref l0), some (.int l1)] [] S im Q) : V mX2_init d b 106 [some (.ref l0), some (.int l1)] [] S im Q := by
  refine V.iload_n dX2_init_106 rfl rfl ?_
  refine V.bipush (v := 6) dX2_init_107 (by decide) ?_
  refine V.icmp_ge (tgt := 131) dX2_init_109 (by decide) (fun h => ?_) (fun h => ?_)
  · exact kt h
  · exact kf h
theorem bX2_init_112 {d : Nat} {b : Nat × Nat} {S : XS} {im : XI} {Q : Option Value → XS → XI → Prop} {l0 : Nat} {l1 : Int32} {r1 : Nat} {b1 : Nat × Nat} {P : XS → XI → Prop} {bc be : Nat × Nat} (g0 : S.1[l0]? = some (.inl 2)) (g1 : S.2 l0 1 = some r1) (g2 : 1 + b1.1 ≤ b.1 ∧ 3 + b1.2 ≤ b.2) (hs : SpC mX0_init d bc [.ref S.1.length] (xpush S (.inl 0)) (xz im S.1.length) P) (hbud : bc.1 + be.1 ≤ b1.1 ∧ bc.2 + be.2 ≤ b1.2) (hP : ∀ S2 im2, P S2 im2 → S2.1.length = ((xpush S (.inl 0))).1.length + bc.1) (k : ∀ S2 im2, P S2 im2 → V mX2_init (d + 1) be 124 [some (.ref l0), some (.int l1)] [.ref S.1.length, .int l1, .ref r1] S2 im2 Q) : V mX2_init (d + 1) b 112 [some (.ref l0), some (.int l1)] [] S im Q := by
  refine V.aload_n dX2_init_112 rfl rfl ?_
  refine V.getR fX2_19 rfl g0 g1 dX2_init_113 ?_
  refine V.iload_n dX2_init_116 rfl rfl ?_
  refine V.new (ci := 0) rfl nwX2_17.1 nwX2_17.2.1 nwX2_17.2.2 g2 dX2_init_117 ?_
  refine V.dup dX2_init_120 rfl ?_
  refine V.cC rfl vX0_init lkX2_50 wX0_init rfl rfl (As := []) rfl rfl rfl dX2_init_121 hs hbud hP (fun S2 im2 h2 => ?_)
  exact k S2 im2 h2
theorem bX2_init_124 {d : Nat} {b : Nat × Nat} {S : XS} {im : XI} {Q : Option Value → XS → XI → Prop} {l0 : Nat} {l1 : Int32} {s0 : Nat} {s1 : Int32} {s2 : Nat} {n1 : Nat} {i2 : Nat} (g0 : XG S s0 1 n1) (g1 : s1 = nI i2) (g2 : i2 < n1) (g3 : S.1[s2]? = some (.inl 0)) (k : V mX2_init d b 125 [some (.ref l0), some (.int l1)] [] (S.1, xur S.2 s0 i2 (some s2)) im Q) : V mX2_init d b 124 [some (.ref l0), some (.int l1)] [.ref s2, .int s1, .ref s0] S im Q := by
  refine V.aast (i := i2) (ci := 0) g0 g1 g2 g3 rfl dX2_init_124 ?_
  exact k
theorem bX2_init_125 {d : Nat} {b : Nat × Nat} {S : XS} {im : XI} {Q : Option Value → XS → XI → Prop} {l0 : Nat} {l1 : Int32}  (k : V mX2_init d b 106 [some (.ref l0), some (.int (l1 + (1 : Int32)))] [] S im Q) : V mX2_init d b 125 [some (.ref l0), some (.int l1)] [] S im Q := by
  refine V.iinc (v := (l1 + (1 : Int32))) dX2_init_125 rfl rfl rfl ?_
  refine V.goto (tgt := 106) dX2_init_128 (by decide) ?_
  exact k
theorem bX2_init_131 {d : Nat} {b : Nat × Nat} {S : XS} {im : XI} {Q : Option Value → XS → XI → Prop} {l0 : Nat} {l1 : Int32}  (hq : Q none S im) : V mX2_init d b 131 [some (.ref l0), some (.int l1)] [] S im Q := by
  exact V.vret rfl dX2_init_131 hq
theorem bX2_beLike_0 {d : Nat} {b : Nat × Nat} {S : XS} {im : XI} {Q : Option Value → XS → XI → Prop} {l0 : Nat} {l1 : Nat}  (k : V mX2_beLike d b 2 [some (.ref l0), some (.ref l1), some (.int (0 : Int32))] [] S im Q) : V mX2_beLike d b 0 [some (.ref l0), some (.ref l1), none] [] S im Q := by
  refine V.iconst (v := 0) dX2_beLike_0 (by decide) ?_
  refine V.istore_n dX2_beLike_1 rfl rfl rfl ?_
  exact k
theorem bX2_beLike_2 {d : Nat} {b : Nat × Nat} {S : XS} {im : XI} {Q : Option Value → XS → XI → Prop} {l0 : Nat} {l1 : Nat} {l2 : Int32}  (kt : (6 : Int32) ≤ l2 → V mX2_beLike d b 29 [some (.ref l0), some (.ref l1), some (.int l2)] [] S im Q) (kf : ¬ (6 : Int32) ≤ l2 → V mX2_beLike d b 8 [some (.ref l0), some (.ref l1), some (.int l2)] [] S im Q) : V mX2_beLike d b 2 [some (.ref l0), some (.ref l1), some (.int l2)] [] S im Q := by
  refine V.iload_n dX2_beLike_2 rfl rfl ?_
  refine V.bipush (v := 6) dX2_beLike_3 (by decide) ?_
  refine V.icmp_ge (tgt := 29) dX2_beLike_5 (by decide) (fun h => ?_) (fun h => ?_)
  · exact kt h
  · exact kf h
theorem bX2_beLike_8 {d : Nat} {b : Nat × Nat} {S : XS} {im : XI} {Q : Option Value → XS → XI → Prop} {l0 : Nat} {l1 : Nat} {l2 : Int32} {r1 : Nat} {n2 : Nat} {i3 : Nat} {r4 : Nat} {r5 : Nat} {n6 : Nat} {r7 : Nat} {P : XI → Prop} (g0 : S.1[l0]? = some (.inl 2)) (g1 : S.2 l0 0 = some r1) (g2 : XG S r1 0 n2) (g3 : l2 = nI i3) (g4 : i3 < n2) (g5 : S.2 r1 i3 = some r4) (g6 : S.1[l1]? = some (.inl 2)) (g7 : S.2 l1 0 = some r5) (g8 : XG S r5 0 n6) (g9 : i3 < n6) (g10 : S.2 r5 i3 = some r7) (g11 : S.1[r4]? = some (.inl 4)) (hs : SpV mX4_beLike d [.ref r4, .ref r7] S im P) (k : ∀ im2, P im2 → V mX2_beLike (d + 1) b 23 [some (.ref l0), some (.ref l1), some (.int l2)] [] S im2 Q) : V mX2_beLike (d + 1) b 8 [some (.ref l0), some (.ref l1), some (.int l2)] [] S im Q := by
  refine V.aload_n dX2_beLike_8 rfl rfl ?_
  refine V.getR fX2_11 rfl g0 g1 dX2_beLike_9 ?_
  refine V.iload_n dX2_beLike_12 rfl rfl ?_
  refine V.aald (i := i3) g2 g3 g4 g5 dX2_beLike_13 ?_
  refine V.aload_n dX2_beLike_14 rfl rfl ?_
  refine V.getR fX2_11 rfl g6 g7 dX2_beLike_15 ?_
  refine V.iload_n dX2_beLike_18 rfl rfl ?_
  refine V.aald (i := i3) g8 g3 g9 g10 dX2_beLike_19 ?_
  refine V.cVV rfl vX4_beLike lkX2_51 wX4_beLike (ci := 4) rfl g11 (As := [.ref r7]) rfl rfl rfl dX2_beLike_20 hs (fun im2 h2 => ?_)
  exact k im2 h2
theorem bX2_beLike_23 {d : Nat} {b : Nat × Nat} {S : XS} {im : XI} {Q : Option Value → XS → XI → Prop} {l0 : Nat} {l1 : Nat} {l2 : Int32}  (k : V mX2_beLike d b 2 [some (.ref l0), some (.ref l1), some (.int (l2 + (1 : Int32)))] [] S im Q) : V mX2_beLike d b 23 [some (.ref l0), some (.ref l1), some (.int l2)] [] S im Q := by
  refine V.iinc (v := (l2 + (1 : Int32))) dX2_beLike_23 rfl rfl rfl ?_
  refine V.goto (tgt := 2) dX2_beLike_26 (by decide) ?_
  exact k
theorem bX2_beLike_29 {d : Nat} {b : Nat × Nat} {S : XS} {im : XI} {Q : Option Value → XS → XI → Prop} {l0 : Nat} {l1 : Nat} {l2 : Int32}  (k : V mX2_beLike d b 31 [some (.ref l0), some (.ref l1), some (.int (0 : Int32))] [] S im Q) : V mX2_beLike d b 29 [some (.ref l0), some (.ref l1), some (.int l2)] [] S im Q := by
  refine V.iconst (v := 0) dX2_beLike_29 (by decide) ?_
  refine V.istore_n dX2_beLike_30 rfl rfl rfl ?_
  exact k
theorem bX2_beLike_31 {d : Nat} {b : Nat × Nat} {S : XS} {im : XI} {Q : Option Value → XS → XI → Prop} {l0 : Nat} {l1 : Nat} {l2 : Int32}  (kt : (6 : Int32) ≤ l2 → V mX2_beLike d b 58 [some (.ref l0), some (.ref l1), some (.int l2)] [] S im Q) (kf : ¬ (6 : Int32) ≤ l2 → V mX2_beLike d b 37 [some (.ref l0), some (.ref l1), some (.int l2)] [] S im Q) : V mX2_beLike d b 31 [some (.ref l0), some (.ref l1), some (.int l2)] [] S im Q := by
  refine V.iload_n dX2_beLike_31 rfl rfl ?_
  refine V.bipush (v := 6) dX2_beLike_32 (by decide) ?_
  refine V.icmp_ge (tgt := 58) dX2_beLike_34 (by decide) (fun h => ?_) (fun h => ?_)
  · exact kt h
  · exact kf h
theorem bX2_beLike_37 {d : Nat} {b : Nat × Nat} {S : XS} {im : XI} {Q : Option Value → XS → XI → Prop} {l0 : Nat} {l1 : Nat} {l2 : Int32} {r1 : Nat} {n2 : Nat} {i3 : Nat} {r4 : Nat} {r5 : Nat} {n6 : Nat} {r7 : Nat} {P : XI → Prop} (g0 : S.1[l0]? = some (.inl 2)) (g1 : S.2 l0 1 = some r1) (g2 : XG S r1 1 n2) (g3 : l2 = nI i3) (g4 : i3 < n2) (g5 : S.2 r1 i3 = some r4) (g6 : S.1[l1]? = some (.inl 2)) (g7 : S.2 l1 1 = some r5) (g8 : XG S r5 1 n6) (g9 : i3 < n6) (g10 : S.2 r5 i3 = some r7) (g11 : S.1[r4]? = some (.inl 0)) (hs : SpV mX0_beLike d [.ref r4, .ref r7] S im P) (k : ∀ im2, P im2 → V mX2_beLike (d + 1) b 52 [some (.ref l0), some (.ref l1), some (.int l2)] [] S im2 Q) : V mX2_beLike (d + 1) b 37 [some (.ref l0), some (.ref l1), some (.int l2)] [] S im Q := by
  refine V.aload_n dX2_beLike_37 rfl rfl ?_
  refine V.getR fX2_19 rfl g0 g1 dX2_beLike_38 ?_
  refine V.iload_n dX2_beLike_41 rfl rfl ?_
  refine V.aald (i := i3) g2 g3 g4 g5 dX2_beLike_42 ?_
  refine V.aload_n dX2_beLike_43 rfl rfl ?_
  refine V.getR fX2_19 rfl g6 g7 dX2_beLike_44 ?_
  refine V.iload_n dX2_beLike_47 rfl rfl ?_
  refine V.aald (i := i3) g8 g3 g9 g10 dX2_beLike_48 ?_
  refine V.cVV rfl vX0_beLike lkX2_55 wX0_beLike (ci := 0) rfl g11 (As := [.ref r7]) rfl rfl rfl dX2_beLike_49 hs (fun im2 h2 => ?_)
  exact k im2 h2
theorem bX2_beLike_52 {d : Nat} {b : Nat × Nat} {S : XS} {im : XI} {Q : Option Value → XS → XI → Prop} {l0 : Nat} {l1 : Nat} {l2 : Int32}  (k : V mX2_beLike d b 31 [some (.ref l0), some (.ref l1), some (.int (l2 + (1 : Int32)))] [] S im Q) : V mX2_beLike d b 52 [some (.ref l0), some (.ref l1), some (.int l2)] [] S im Q := by
  refine V.iinc (v := (l2 + (1 : Int32))) dX2_beLike_52 rfl rfl rfl ?_
  refine V.goto (tgt := 31) dX2_beLike_55 (by decide) ?_
  exact k
theorem bX2_beLike_58 {d : Nat} {b : Nat × Nat} {S : XS} {im : XI} {Q : Option Value → XS → XI → Prop} {l0 : Nat} {l1 : Nat} {l2 : Int32} {r1 : Nat} {r2 : Nat} {P : XI → Prop} (g0 : S.1[l0]? = some (.inl 2)) (g1 : S.2 l0 2 = some r1) (g2 : S.1[l1]? = some (.inl 2)) (g3 : S.2 l1 2 = some r2) (g4 : S.1[r1]? = some (.inl 3)) (hs : SpV mX3_beLike d [.ref r1, .ref r2] S im P) (k : ∀ im2, P im2 → V mX2_beLike (d + 1) b 69 [some (.ref l0), some (.ref l1), some (.int l2)] [] S im2 Q) : V mX2_beLike (d + 1) b 58 [some (.ref l0), some (.ref l1), some (.int l2)] [] S im Q := by
  refine V.aload_n dX2_beLike_58 rfl rfl ?_
  refine V.getR fX2_28 rfl g0 g1 dX2_beLike_59 ?_
  refine V.aload_n dX2_beLike_62 rfl rfl ?_
  refine V.getR fX2_28 rfl g2 g3 dX2_beLike_63 ?_
  refine V.cVV rfl vX3_beLike lkX2_58 wX3_beLike (ci := 3) rfl g4 (As := [.ref r2]) rfl rfl rfl dX2_beLike_66 hs (fun im2 h2 => ?_)
  exact k im2 h2
theorem bX2_beLike_69 {d : Nat} {b : Nat × Nat} {S : XS} {im : XI} {Q : Option Value → XS → XI → Prop} {l0 : Nat} {l1 : Nat} {l2 : Int32} {r1 : Nat} {r2 : Nat} {P : XI → Prop} (g0 : S.1[l0]? = some (.inl 2)) (g1 : S.2 l0 3 = some r1) (g2 : S.1[l1]? = some (.inl 2)) (g3 : S.2 l1 3 = some r2) (g4 : S.1[r1]? = some (.inl 3)) (hs : SpV mX3_beLike d [.ref r1, .ref r2] S im P) (k : ∀ im2, P im2 → V mX2_beLike (d + 1) b 80 [some (.ref l0), some (.ref l1), some (.int l2)] [] S im2 Q) : V mX2_beLike (d + 1) b 69 [some (.ref l0), some (.ref l1), some (.int l2)] [] S im Q := by
  refine V.aload_n dX2_beLike_69 rfl rfl ?_
  refine V.getR fX2_32 rfl g0 g1 dX2_beLike_70 ?_
  refine V.aload_n dX2_beLike_73 rfl rfl ?_
  refine V.getR fX2_32 rfl g2 g3 dX2_beLike_74 ?_
  refine V.cVV rfl vX3_beLike lkX2_58 wX3_beLike (ci := 3) rfl g4 (As := [.ref r2]) rfl rfl rfl dX2_beLike_77 hs (fun im2 h2 => ?_)
  exact k im2 h2
theorem bX2_beLike_80 {d : Nat} {b : Nat × Nat} {S : XS} {im : XI} {Q : Option Value → XS → XI → Prop} {l0 : Nat} {l1 : Nat} {l2 : Int32} {r1 : Nat} {r2 : Nat} {P : XI → Prop} (g0 : S.1[l0]? = some (.inl 2)) (g1 : S.2 l0 4 = some r1) (g2 : S.1[l1]? = some (.inl 2)) (g3 : S.2 l1 4 = some r2) (g4 : S.1[r1]? = some (.inl 6)) (hs : SpV mX6_beLike d [.ref r1, .ref r2] S im P) (k : ∀ im2, P im2 → V mX2_beLike (d + 1) b 91 [some (.ref l0), some (.ref l1), some (.int l2)] [] S im2 Q) : V mX2_beLike (d + 1) b 80 [some (.ref l0), some (.ref l1), some (.int l2)] [] S im Q := by
  refine V.aload_n dX2_beLike_80 rfl rfl ?_
  refine V.getR fX2_38 rfl g0 g1 dX2_beLike_81 ?_
  refine V.aload_n dX2_beLike_84 rfl rfl ?_
  refine V.getR fX2_38 rfl g2 g3 dX2_beLike_85 ?_
  refine V.cVV rfl vX6_beLike lkX2_61 wX6_beLike (ci := 6) rfl g4 (As := [.ref r2]) rfl rfl rfl dX2_beLike_88 hs (fun im2 h2 => ?_)
  exact k im2 h2
theorem bX2_beLike_91 {d : Nat} {b : Nat × Nat} {S : XS} {im : XI} {Q : Option Value → XS → XI → Prop} {l0 : Nat} {l1 : Nat} {l2 : Int32} {r1 : Nat} {r2 : Nat} {P : XI → Prop} (g0 : S.1[l0]? = some (.inl 2)) (g1 : S.2 l0 5 = some r1) (g2 : S.1[l1]? = some (.inl 2)) (g3 : S.2 l1 5 = some r2) (g4 : S.1[r1]? = some (.inl 6)) (hs : SpV mX6_beLike d [.ref r1, .ref r2] S im P) (k : ∀ im2, P im2 → V mX2_beLike (d + 1) b 102 [some (.ref l0), some (.ref l1), some (.int l2)] [] S im2 Q) : V mX2_beLike (d + 1) b 91 [some (.ref l0), some (.ref l1), some (.int l2)] [] S im Q := by
  refine V.aload_n dX2_beLike_91 rfl rfl ?_
  refine V.getR fX2_42 rfl g0 g1 dX2_beLike_92 ?_
  refine V.aload_n dX2_beLike_95 rfl rfl ?_
  refine V.getR fX2_42 rfl g2 g3 dX2_beLike_96 ?_
  refine V.cVV rfl vX6_beLike lkX2_61 wX6_beLike (ci := 6) rfl g4 (As := [.ref r2]) rfl rfl rfl dX2_beLike_99 hs (fun im2 h2 => ?_)
  exact k im2 h2
theorem bX2_beLike_102 {d : Nat} {b : Nat × Nat} {S : XS} {im : XI} {Q : Option Value → XS → XI → Prop} {l0 : Nat} {l1 : Nat} {l2 : Int32} (g0 : S.1[l1]? = some (.inl 2)) (g1 : S.1[l0]? = some (.inl 2)) (hq : Q none S (xup (xup (xup (xup im l0 6 (im l1 6)) l0 7 ((xup im l0 6 (im l1 6)) l1 7)) l0 8 ((xup (xup im l0 6 (im l1 6)) l0 7 ((xup im l0 6 (im l1 6)) l1 7)) l1 8)) l0 9 ((xup (xup (xup im l0 6 (im l1 6)) l0 7 ((xup im l0 6 (im l1 6)) l1 7)) l0 8 ((xup (xup im l0 6 (im l1 6)) l0 7 ((xup im l0 6 (im l1 6)) l1 7)) l1 8)) l1 9))) : V mX2_beLike d b 102 [some (.ref l0), some (.ref l1), some (.int l2)] [] S im Q := by
  refine V.aload_n dX2_beLike_102 rfl rfl ?_
  refine V.aload_n dX2_beLike_103 rfl rfl ?_
  refine V.getI fX2_64 rfl g0 dX2_beLike_104 ?_
  refine V.putI fX2_64 (fun h => by cases h) rfl g1 dX2_beLike_107 ?_
  refine V.aload_n dX2_beLike_110 rfl rfl ?_
  refine V.aload_n dX2_beLike_111 rfl rfl ?_
  refine V.getI fX2_67 rfl g0 dX2_beLike_112 ?_
  refine V.putI fX2_67 (fun h => by cases h) rfl g1 dX2_beLike_115 ?_
  refine V.aload_n dX2_beLike_118 rfl rfl ?_
  refine V.aload_n dX2_beLike_119 rfl rfl ?_
  refine V.getI fX2_70 rfl g0 dX2_beLike_120 ?_
  refine V.putI fX2_70 (fun h => by cases h) rfl g1 dX2_beLike_123 ?_
  refine V.aload_n dX2_beLike_126 rfl rfl ?_
  refine V.aload_n dX2_beLike_127 rfl rfl ?_
  refine V.getI fX2_45 rfl g0 dX2_beLike_128 ?_
  refine V.putI fX2_45 (fun h => by cases h) rfl g1 dX2_beLike_131 ?_
  exact V.vret rfl dX2_beLike_134 hq
theorem bX2_hasPerson_0 {d : Nat} {b : Nat × Nat} {bo : Bool} {im : XI} {Q : Option Value → XS → XI → Prop} {l1 : Int32} {P : Int32 → XI → Prop}  (hs : SpI mX9_within d [.int l1, .int (0 : Int32), .int ((im 1 6) - (1 : Int32))] (SC bo) im P) (k : ∀ x2 im2, P x2 im2 → V mX2_hasPerson (d + 1) b 11 [some (.ref 1), some (.int l1)] [.int x2] (SC bo) im2 Q) : V mX2_hasPerson (d + 1) b 0 [some (.ref 1), some (.int l1)] [] (SC bo) im Q := by
  refine V.iload_n dX2_hasPerson_0 rfl rfl ?_
  refine V.iconst (v := 0) dX2_hasPerson_1 (by decide) ?_
  refine V.aload_n dX2_hasPerson_2 rfl rfl ?_
  refine V.getI fX2_64 rfl (by rfl) dX2_hasPerson_3 ?_
  refine V.iconst (v := 1) dX2_hasPerson_6 (by decide) ?_
  refine V.isub dX2_hasPerson_7 ?_
  refine V.cSI rfl vX9_within lkX2_73 sX9_within (As := [.int l1, .int (0 : Int32), .int ((im 1 6) - (1 : Int32))]) rfl rfl rfl dX2_hasPerson_8 hs (fun x2 im2 h2 => ?_)
  exact k x2 im2 h2
theorem bX2_hasPerson_11 {d : Nat} {b : Nat × Nat} {bo : Bool} {im : XI} {Q : Option Value → XS → XI → Prop} {l1 : Int32} {s0 : Int32} (g0 : s0 = 0 ∨ s0 = 1) (hq : Q (some (.int s0)) (SC bo) im) : V mX2_hasPerson d b 11 [some (.ref 1), some (.int l1)] [.int s0] (SC bo) im Q := by
  exact V.zret rfl g0 dX2_hasPerson_11 hq
theorem bX2_hasDoing_0 {d : Nat} {b : Nat × Nat} {bo : Bool} {im : XI} {Q : Option Value → XS → XI → Prop} {l1 : Int32} {P : Int32 → XI → Prop}  (hs : SpI mX9_within d [.int l1, .int (0 : Int32), .int ((im 1 7) - (1 : Int32))] (SC bo) im P) (k : ∀ x2 im2, P x2 im2 → V mX2_hasDoing (d + 1) b 11 [some (.ref 1), some (.int l1)] [.int x2] (SC bo) im2 Q) : V mX2_hasDoing (d + 1) b 0 [some (.ref 1), some (.int l1)] [] (SC bo) im Q := by
  refine V.iload_n dX2_hasDoing_0 rfl rfl ?_
  refine V.iconst (v := 0) dX2_hasDoing_1 (by decide) ?_
  refine V.aload_n dX2_hasDoing_2 rfl rfl ?_
  refine V.getI fX2_67 rfl (by rfl) dX2_hasDoing_3 ?_
  refine V.iconst (v := 1) dX2_hasDoing_6 (by decide) ?_
  refine V.isub dX2_hasDoing_7 ?_
  refine V.cSI rfl vX9_within lkX2_73 sX9_within (As := [.int l1, .int (0 : Int32), .int ((im 1 7) - (1 : Int32))]) rfl rfl rfl dX2_hasDoing_8 hs (fun x2 im2 h2 => ?_)
  exact k x2 im2 h2
theorem bX2_hasDoing_11 {d : Nat} {b : Nat × Nat} {bo : Bool} {im : XI} {Q : Option Value → XS → XI → Prop} {l1 : Int32} {s0 : Int32} (g0 : s0 = 0 ∨ s0 = 1) (hq : Q (some (.int s0)) (SC bo) im) : V mX2_hasDoing d b 11 [some (.ref 1), some (.int l1)] [.int s0] (SC bo) im Q := by
  exact V.zret rfl g0 dX2_hasDoing_11 hq
theorem bX2_hasSet_0 {d : Nat} {b : Nat × Nat} {bo : Bool} {im : XI} {Q : Option Value → XS → XI → Prop} {l1 : Int32} {P : Int32 → XI → Prop}  (hs : SpI mX9_within d [.int l1, .int (0 : Int32), .int (((1 : Int32) <<< ((im 1 6) &&& 31)) - (1 : Int32))] (SC bo) im P) (k : ∀ x2 im2, P x2 im2 → V mX2_hasSet (d + 1) b 13 [some (.ref 1), some (.int l1)] [.int x2] (SC bo) im2 Q) : V mX2_hasSet (d + 1) b 0 [some (.ref 1), some (.int l1)] [] (SC bo) im Q := by
  refine V.iload_n dX2_hasSet_0 rfl rfl ?_
  refine V.iconst (v := 0) dX2_hasSet_1 (by decide) ?_
  refine V.iconst (v := 1) dX2_hasSet_2 (by decide) ?_
  refine V.aload_n dX2_hasSet_3 rfl rfl ?_
  refine V.getI fX2_64 rfl (by rfl) dX2_hasSet_4 ?_
  refine V.ishl dX2_hasSet_7 ?_
  refine V.iconst (v := 1) dX2_hasSet_8 (by decide) ?_
  refine V.isub dX2_hasSet_9 ?_
  refine V.cSI rfl vX9_within lkX2_73 sX9_within (As := [.int l1, .int (0 : Int32), .int (((1 : Int32) <<< ((im 1 6) &&& 31)) - (1 : Int32))]) rfl rfl rfl dX2_hasSet_10 hs (fun x2 im2 h2 => ?_)
  exact k x2 im2 h2
theorem bX2_hasSet_13 {d : Nat} {b : Nat × Nat} {bo : Bool} {im : XI} {Q : Option Value → XS → XI → Prop} {l1 : Int32} {s0 : Int32} (g0 : s0 = 0 ∨ s0 = 1) (hq : Q (some (.int s0)) (SC bo) im) : V mX2_hasSet d b 13 [some (.ref 1), some (.int l1)] [.int s0] (SC bo) im Q := by
  exact V.zret rfl g0 dX2_hasSet_13 hq
theorem bX2_lawOf_0 {d : Nat} {b : Nat × Nat} {bo : Bool} {im : XI} {Q : Option Value → XS → XI → Prop} {l1 : Int32}  (kt : ¬ l1 = 0 → V mX2_lawOf d b 11 [some (.ref 1), some (.int l1)] [] (SC bo) im Q) (kf : l1 = 0 → V mX2_lawOf d b 4 [some (.ref 1), some (.int l1)] [] (SC bo) im Q) : V mX2_lawOf d b 0 [some (.ref 1), some (.int l1)] [] (SC bo) im Q := by
  refine V.iload_n dX2_lawOf_0 rfl rfl ?_
  refine V.if_ne (tgt := 11) dX2_lawOf_1 (by decide) (fun h => ?_) (fun h => ?_)
  · exact kt h
  · exact kf h
theorem bX2_lawOf_4 {d : Nat} {b : Nat × Nat} {bo : Bool} {im : XI} {Q : Option Value → XS → XI → Prop} {l1 : Int32}  (k : V mX2_lawOf d b 15 [some (.ref 1), some (.int l1)] [.ref 4] (SC bo) im Q) : V mX2_lawOf d b 4 [some (.ref 1), some (.int l1)] [] (SC bo) im Q := by
  refine V.aload_n dX2_lawOf_4 rfl rfl ?_
  refine V.getR fX2_28 rfl (by rfl) (by rfl) dX2_lawOf_5 ?_
  refine V.goto (tgt := 15) dX2_lawOf_8 (by decide) ?_
  exact k
theorem bX2_lawOf_11 {d : Nat} {b : Nat × Nat} {bo : Bool} {im : XI} {Q : Option Value → XS → XI → Prop} {l1 : Int32}  (k : V mX2_lawOf d b 15 [some (.ref 1), some (.int l1)] [.ref 8] (SC bo) im Q) : V mX2_lawOf d b 11 [some (.ref 1), some (.int l1)] [] (SC bo) im Q := by
  refine V.aload_n dX2_lawOf_11 rfl rfl ?_
  refine V.getR fX2_32 rfl (by rfl) (by rfl) dX2_lawOf_12 ?_
  exact k
theorem bX2_lawOf_15 {d : Nat} {b : Nat × Nat} {bo : Bool} {im : XI} {Q : Option Value → XS → XI → Prop} {l1 : Int32} {s0 : Nat}  (hq : Q (some (.ref s0)) (SC bo) im) : V mX2_lawOf d b 15 [some (.ref 1), some (.int l1)] [.ref s0] (SC bo) im Q := by
  exact V.aret rfl (Or.inl ⟨_, rfl⟩) dX2_lawOf_15 hq
theorem bX2_isShutBy_0 {d : Nat} {b : Nat × Nat} {bo : Bool} {im : XI} {Q : Option Value → XS → XI → Prop} {l1 : Int32} {l2 : Int32} {l3 : Int32} {l4 : Int32} {P : Int32 → XI → Prop}  (hs : SpI mX2_hasPerson d [.ref 1, .int l1] (SC bo) im P) (k : ∀ x2 im2, P x2 im2 → V mX2_isShutBy (d + 1) b 5 [some (.ref 1), some (.int l1), some (.int l2), some (.int l3), some (.int l4), none, none] [.int x2] (SC bo) im2 Q) : V mX2_isShutBy (d + 1) b 0 [some (.ref 1), some (.int l1), some (.int l2), some (.int l3), some (.int l4), none, none] [] (SC bo) im Q := by
  refine V.aload_n dX2_isShutBy_0 rfl rfl ?_
  refine V.iload_n dX2_isShutBy_1 rfl rfl ?_
  refine V.cVI rfl vX2_hasPerson lkX2_77 wX2_hasPerson (ci := 2) rfl (by rfl) (As := [.int l1]) rfl rfl rfl dX2_isShutBy_2 hs (fun x2 im2 h2 => ?_)
  exact k x2 im2 h2
theorem bX2_isShutBy_5 {d : Nat} {b : Nat × Nat} {bo : Bool} {im : XI} {Q : Option Value → XS → XI → Prop} {l1 : Int32} {l2 : Int32} {l3 : Int32} {l4 : Int32} {s0 : Int32}  (kt : ¬ s0 = 0 → V mX2_isShutBy d b 10 [some (.ref 1), some (.int l1), some (.int l2), some (.int l3), some (.int l4), none, none] [] (SC bo) im Q) (kf : s0 = 0 → V mX2_isShutBy d b 8 [some (.ref 1), some (.int l1), some (.int l2), some (.int l3), some (.int l4), none, none] [] (SC bo) im Q) : V mX2_isShutBy d b 5 [some (.ref 1), some (.int l1), some (.int l2), some (.int l3), some (.int l4), none, none] [.int s0] (SC bo) im Q := by
  refine V.if_ne (tgt := 10) dX2_isShutBy_5 (by decide) (fun h => ?_) (fun h => ?_)
  · exact kt h
  · exact kf h
theorem bX2_isShutBy_8 {d : Nat} {b : Nat × Nat} {bo : Bool} {im : XI} {Q : Option Value → XS → XI → Prop} {l1 : Int32} {l2 : Int32} {l3 : Int32} {l4 : Int32}  (hq : Q (some (.int (0 : Int32))) (SC bo) im) : V mX2_isShutBy d b 8 [some (.ref 1), some (.int l1), some (.int l2), some (.int l3), some (.int l4), none, none] [] (SC bo) im Q := by
  refine V.iconst (v := 0) dX2_isShutBy_8 (by decide) ?_
  exact V.zret rfl (by decide) dX2_isShutBy_9 hq
theorem bX2_isShutBy_10 {d : Nat} {b : Nat × Nat} {bo : Bool} {im : XI} {Q : Option Value → XS → XI → Prop} {l1 : Int32} {l2 : Int32} {l3 : Int32} {l4 : Int32} {P : Int32 → XI → Prop}  (hs : SpI mX9_rest d [.int l2, .int l3, .int l4] (SC bo) im P) (k : ∀ x2 im2, P x2 im2 → V mX2_isShutBy (d + 1) b 17 [some (.ref 1), some (.int l1), some (.int l2), some (.int l3), some (.int l4), none, none] [.int x2] (SC bo) im2 Q) : V mX2_isShutBy (d + 1) b 10 [some (.ref 1), some (.int l1), some (.int l2), some (.int l3), some (.int l4), none, none] [] (SC bo) im Q := by
  refine V.iload_n dX2_isShutBy_10 rfl rfl ?_
  refine V.iload_n dX2_isShutBy_11 rfl rfl ?_
  refine V.iload dX2_isShutBy_12 rfl ?_
  refine V.cSI rfl vX9_rest lkX2_81 sX9_rest (As := [.int l2, .int l3, .int l4]) rfl rfl rfl dX2_isShutBy_14 hs (fun x2 im2 h2 => ?_)
  exact k x2 im2 h2
theorem bX2_isShutBy_17 {d : Nat} {b : Nat × Nat} {bo : Bool} {im : XI} {Q : Option Value → XS → XI → Prop} {l1 : Int32} {l2 : Int32} {l3 : Int32} {l4 : Int32} {s0 : Int32} {i1 : Nat} {P : Int32 → XI → Prop} (g0 : l1 = nI i1) (g1 : i1 < 6) (hs : SpI mX4_blinks d [.ref (16 + i1), .int l2, .int s0] (SC bo) im P) (k : ∀ x2 im2, P x2 im2 → V mX2_isShutBy (d + 1) b 31 [some (.ref 1), some (.int l1), some (.int l2), some (.int l3), some (.int l4), some (.int s0), none] [.int x2] (SC bo) im2 Q) : V mX2_isShutBy (d + 1) b 17 [some (.ref 1), some (.int l1), some (.int l2), some (.int l3), some (.int l4), none, none] [.int s0] (SC bo) im Q := by
  refine V.istore dX2_isShutBy_17 rfl rfl ?_
  refine V.aload_n dX2_isShutBy_19 rfl rfl ?_
  refine V.getR fX2_11 rfl (by rfl) (by rfl) dX2_isShutBy_20 ?_
  refine V.iload_n dX2_isShutBy_23 rfl rfl ?_
  refine V.aald (i := i1) ⟨by rfl, by rfl, by rfl⟩ g0 g1 (xpeople g1) dX2_isShutBy_24 ?_
  refine V.iload_n dX2_isShutBy_25 rfl rfl ?_
  refine V.iload dX2_isShutBy_26 rfl ?_
  refine V.cVI rfl vX4_blinks lkX2_85 wX4_blinks (ci := 4) rfl (xperson g1) (As := [.int l2, .int s0]) rfl rfl rfl dX2_isShutBy_28 hs (fun x2 im2 h2 => ?_)
  exact k x2 im2 h2
theorem bX2_isShutBy_31 {d : Nat} {b : Nat × Nat} {bo : Bool} {im : XI} {Q : Option Value → XS → XI → Prop} {l1 : Int32} {l2 : Int32} {l3 : Int32} {l4 : Int32} {l5 : Int32} {s0 : Int32}  (kt : s0 = 0 → V mX2_isShutBy d b 38 [some (.ref 1), some (.int l1), some (.int l2), some (.int l3), some (.int l4), some (.int l5), none] [] (SC bo) im Q) (kf : ¬ s0 = 0 → V mX2_isShutBy d b 34 [some (.ref 1), some (.int l1), some (.int l2), some (.int l3), some (.int l4), some (.int l5), none] [] (SC bo) im Q) : V mX2_isShutBy d b 31 [some (.ref 1), some (.int l1), some (.int l2), some (.int l3), some (.int l4), some (.int l5), none] [.int s0] (SC bo) im Q := by
  refine V.if_eq (tgt := 38) dX2_isShutBy_31 (by decide) (fun h => ?_) (fun h => ?_)
  · exact kt h
  · exact kf h
theorem bX2_isShutBy_34 {d : Nat} {b : Nat × Nat} {bo : Bool} {im : XI} {Q : Option Value → XS → XI → Prop} {l1 : Int32} {l2 : Int32} {l3 : Int32} {l4 : Int32} {l5 : Int32}  (k : V mX2_isShutBy d b 39 [some (.ref 1), some (.int l1), some (.int l2), some (.int l3), some (.int l4), some (.int l5), none] [.int (1 : Int32)] (SC bo) im Q) : V mX2_isShutBy d b 34 [some (.ref 1), some (.int l1), some (.int l2), some (.int l3), some (.int l4), some (.int l5), none] [] (SC bo) im Q := by
  refine V.iconst (v := 1) dX2_isShutBy_34 (by decide) ?_
  refine V.goto (tgt := 39) dX2_isShutBy_35 (by decide) ?_
  exact k
theorem bX2_isShutBy_38 {d : Nat} {b : Nat × Nat} {bo : Bool} {im : XI} {Q : Option Value → XS → XI → Prop} {l1 : Int32} {l2 : Int32} {l3 : Int32} {l4 : Int32} {l5 : Int32}  (k : V mX2_isShutBy d b 39 [some (.ref 1), some (.int l1), some (.int l2), some (.int l3), some (.int l4), some (.int l5), none] [.int (0 : Int32)] (SC bo) im Q) : V mX2_isShutBy d b 38 [some (.ref 1), some (.int l1), some (.int l2), some (.int l3), some (.int l4), some (.int l5), none] [] (SC bo) im Q := by
  refine V.iconst (v := 0) dX2_isShutBy_38 (by decide) ?_
  exact k
theorem bX2_isShutBy_39 {d : Nat} {b : Nat × Nat} {bo : Bool} {im : XI} {Q : Option Value → XS → XI → Prop} {l1 : Int32} {l2 : Int32} {l3 : Int32} {l4 : Int32} {l5 : Int32} {s0 : Int32} {P : Int32 → XI → Prop}  (hs : SpI mX3_gives d [.ref 4, .int l5, .int s0, .int (l2 - l2 / (24 : Int32) * (24 : Int32))] (SC bo) im P) (k : ∀ x2 im2, P x2 im2 → V mX2_isShutBy (d + 1) b 56 [some (.ref 1), some (.int l1), some (.int l2), some (.int l3), some (.int l4), some (.int l5), some (.int s0)] [.int x2] (SC bo) im2 Q) : V mX2_isShutBy (d + 1) b 39 [some (.ref 1), some (.int l1), some (.int l2), some (.int l3), some (.int l4), some (.int l5), none] [.int s0] (SC bo) im Q := by
  refine V.istore dX2_isShutBy_39 rfl rfl ?_
  refine V.aload_n dX2_isShutBy_41 rfl rfl ?_
  refine V.getR fX2_28 rfl (by rfl) (by rfl) dX2_isShutBy_42 ?_
  refine V.iload dX2_isShutBy_45 rfl ?_
  refine V.iload dX2_isShutBy_47 rfl ?_
  refine V.iload_n dX2_isShutBy_49 rfl rfl ?_
  refine V.bipush (v := 24) dX2_isShutBy_50 (by decide) ?_
  refine V.irem dX2_isShutBy_52 (by decide) ?_
  refine V.cVI rfl vX3_gives lkX2_89 wX3_gives (ci := 3) rfl (by rfl) (As := [.int l5, .int s0, .int (l2 - l2 / (24 : Int32) * (24 : Int32))]) rfl rfl rfl dX2_isShutBy_53 hs (fun x2 im2 h2 => ?_)
  exact k x2 im2 h2
theorem bX2_isShutBy_56 {d : Nat} {b : Nat × Nat} {bo : Bool} {im : XI} {Q : Option Value → XS → XI → Prop} {l1 : Int32} {l2 : Int32} {l3 : Int32} {l4 : Int32} {l5 : Int32} {l6 : Int32} {s0 : Int32}  (kt : ¬ s0 = (1 : Int32) → V mX2_isShutBy d b 64 [some (.ref 1), some (.int l1), some (.int l2), some (.int l3), some (.int l4), some (.int l5), some (.int l6)] [] (SC bo) im Q) (kf : s0 = (1 : Int32) → V mX2_isShutBy d b 60 [some (.ref 1), some (.int l1), some (.int l2), some (.int l3), some (.int l4), some (.int l5), some (.int l6)] [] (SC bo) im Q) : V mX2_isShutBy d b 56 [some (.ref 1), some (.int l1), some (.int l2), some (.int l3), some (.int l4), some (.int l5), some (.int l6)] [.int s0] (SC bo) im Q := by
  refine V.iconst (v := 1) dX2_isShutBy_56 (by decide) ?_
  refine V.icmp_ne (tgt := 64) dX2_isShutBy_57 (by decide) (fun h => ?_) (fun h => ?_)
  · exact kt h
  · exact kf h
theorem bX2_isShutBy_60 {d : Nat} {b : Nat × Nat} {bo : Bool} {im : XI} {Q : Option Value → XS → XI → Prop} {l1 : Int32} {l2 : Int32} {l3 : Int32} {l4 : Int32} {l5 : Int32} {l6 : Int32}  (k : V mX2_isShutBy d b 65 [some (.ref 1), some (.int l1), some (.int l2), some (.int l3), some (.int l4), some (.int l5), some (.int l6)] [.int (1 : Int32)] (SC bo) im Q) : V mX2_isShutBy d b 60 [some (.ref 1), some (.int l1), some (.int l2), some (.int l3), some (.int l4), some (.int l5), some (.int l6)] [] (SC bo) im Q := by
  refine V.iconst (v := 1) dX2_isShutBy_60 (by decide) ?_
  refine V.goto (tgt := 65) dX2_isShutBy_61 (by decide) ?_
  exact k
theorem bX2_isShutBy_64 {d : Nat} {b : Nat × Nat} {bo : Bool} {im : XI} {Q : Option Value → XS → XI → Prop} {l1 : Int32} {l2 : Int32} {l3 : Int32} {l4 : Int32} {l5 : Int32} {l6 : Int32}  (k : V mX2_isShutBy d b 65 [some (.ref 1), some (.int l1), some (.int l2), some (.int l3), some (.int l4), some (.int l5), some (.int l6)] [.int (0 : Int32)] (SC bo) im Q) : V mX2_isShutBy d b 64 [some (.ref 1), some (.int l1), some (.int l2), some (.int l3), some (.int l4), some (.int l5), some (.int l6)] [] (SC bo) im Q := by
  refine V.iconst (v := 0) dX2_isShutBy_64 (by decide) ?_
  exact k
theorem bX2_isShutBy_65 {d : Nat} {b : Nat × Nat} {bo : Bool} {im : XI} {Q : Option Value → XS → XI → Prop} {l1 : Int32} {l2 : Int32} {l3 : Int32} {l4 : Int32} {l5 : Int32} {l6 : Int32} {s0 : Int32} (g0 : s0 = 0 ∨ s0 = 1) (hq : Q (some (.int s0)) (SC bo) im) : V mX2_isShutBy d b 65 [some (.ref 1), some (.int l1), some (.int l2), some (.int l3), some (.int l4), some (.int l5), some (.int l6)] [.int s0] (SC bo) im Q := by
  exact V.zret rfl g0 dX2_isShutBy_65 hq
theorem bX2_isShut_0 {d : Nat} {b : Nat × Nat} {bo : Bool} {im : XI} {Q : Option Value → XS → XI → Prop} {l1 : Int32} {l2 : Int32} {P : Int32 → XI → Prop}  (hs : SpI mX2_hasPerson d [.ref 1, .int l1] (SC bo) im P) (k : ∀ x2 im2, P x2 im2 → V mX2_isShut (d + 1) b 5 [some (.ref 1), some (.int l1), some (.int l2)] [.int x2] (SC bo) im2 Q) : V mX2_isShut (d + 1) b 0 [some (.ref 1), some (.int l1), some (.int l2)] [] (SC bo) im Q := by
  refine V.aload_n dX2_isShut_0 rfl rfl ?_
  refine V.iload_n dX2_isShut_1 rfl rfl ?_
  refine V.cVI rfl vX2_hasPerson lkX2_77 wX2_hasPerson (ci := 2) rfl (by rfl) (As := [.int l1]) rfl rfl rfl dX2_isShut_2 hs (fun x2 im2 h2 => ?_)
  exact k x2 im2 h2
theorem bX2_isShut_5 {d : Nat} {b : Nat × Nat} {bo : Bool} {im : XI} {Q : Option Value → XS → XI → Prop} {l1 : Int32} {l2 : Int32} {s0 : Int32}  (kt : s0 = 0 → V mX2_isShut d b 39 [some (.ref 1), some (.int l1), some (.int l2)] [] (SC bo) im Q) (kf : ¬ s0 = 0 → V mX2_isShut d b 8 [some (.ref 1), some (.int l1), some (.int l2)] [] (SC bo) im Q) : V mX2_isShut d b 5 [some (.ref 1), some (.int l1), some (.int l2)] [.int s0] (SC bo) im Q := by
  refine V.if_eq (tgt := 39) dX2_isShut_5 (by decide) (fun h => ?_) (fun h => ?_)
  · exact kt h
  · exact kf h
theorem bX2_isShut_8 {d : Nat} {b : Nat × Nat} {bo : Bool} {im : XI} {Q : Option Value → XS → XI → Prop} {l1 : Int32} {l2 : Int32} {i1 : Nat} {P : Int32 → XI → Prop} (g0 : l1 = nI i1) (g1 : i1 < 6) (hs : SpI mX2_isShutBy d [.ref 1, .int l1, .int l2, .int (im (16 + i1) 2), .int (im (16 + i1) 3)] (SC bo) im P) (k : ∀ x2 im2, P x2 im2 → V mX2_isShut (d + 1) b 32 [some (.ref 1), some (.int l1), some (.int l2)] [.int x2] (SC bo) im2 Q) : V mX2_isShut (d + 1) b 8 [some (.ref 1), some (.int l1), some (.int l2)] [] (SC bo) im Q := by
  refine V.aload_n dX2_isShut_8 rfl rfl ?_
  refine V.iload_n dX2_isShut_9 rfl rfl ?_
  refine V.iload_n dX2_isShut_10 rfl rfl ?_
  refine V.aload_n dX2_isShut_11 rfl rfl ?_
  refine V.getR fX2_11 rfl (by rfl) (by rfl) dX2_isShut_12 ?_
  refine V.iload_n dX2_isShut_15 rfl rfl ?_
  refine V.aald (i := i1) ⟨by rfl, by rfl, by rfl⟩ g0 g1 (xpeople g1) dX2_isShut_16 ?_
  refine V.getI fX2_92 rfl (xperson g1) dX2_isShut_17 ?_
  refine V.aload_n dX2_isShut_20 rfl rfl ?_
  refine V.getR fX2_11 rfl (by rfl) (by rfl) dX2_isShut_21 ?_
  refine V.iload_n dX2_isShut_24 rfl rfl ?_
  refine V.aald (i := i1) ⟨by rfl, by rfl, by rfl⟩ g0 g1 (xpeople g1) dX2_isShut_25 ?_
  refine V.getI fX2_95 rfl (xperson g1) dX2_isShut_26 ?_
  refine V.cVI rfl vX2_isShutBy lkX2_98 wX2_isShutBy (ci := 2) rfl (by rfl) (As := [.int l1, .int l2, .int (im (16 + i1) 2), .int (im (16 + i1) 3)]) rfl rfl rfl dX2_isShut_29 hs (fun x2 im2 h2 => ?_)
  exact k x2 im2 h2
theorem bX2_isShut_32 {d : Nat} {b : Nat × Nat} {bo : Bool} {im : XI} {Q : Option Value → XS → XI → Prop} {l1 : Int32} {l2 : Int32} {s0 : Int32}  (kt : s0 = 0 → V mX2_isShut d b 39 [some (.ref 1), some (.int l1), some (.int l2)] [] (SC bo) im Q) (kf : ¬ s0 = 0 → V mX2_isShut d b 35 [some (.ref 1), some (.int l1), some (.int l2)] [] (SC bo) im Q) : V mX2_isShut d b 32 [some (.ref 1), some (.int l1), some (.int l2)] [.int s0] (SC bo) im Q := by
  refine V.if_eq (tgt := 39) dX2_isShut_32 (by decide) (fun h => ?_) (fun h => ?_)
  · exact kt h
  · exact kf h
theorem bX2_isShut_35 {d : Nat} {b : Nat × Nat} {bo : Bool} {im : XI} {Q : Option Value → XS → XI → Prop} {l1 : Int32} {l2 : Int32}  (k : V mX2_isShut d b 40 [some (.ref 1), some (.int l1), some (.int l2)] [.int (1 : Int32)] (SC bo) im Q) : V mX2_isShut d b 35 [some (.ref 1), some (.int l1), some (.int l2)] [] (SC bo) im Q := by
  refine V.iconst (v := 1) dX2_isShut_35 (by decide) ?_
  refine V.goto (tgt := 40) dX2_isShut_36 (by decide) ?_
  exact k
theorem bX2_isShut_39 {d : Nat} {b : Nat × Nat} {bo : Bool} {im : XI} {Q : Option Value → XS → XI → Prop} {l1 : Int32} {l2 : Int32}  (k : V mX2_isShut d b 40 [some (.ref 1), some (.int l1), some (.int l2)] [.int (0 : Int32)] (SC bo) im Q) : V mX2_isShut d b 39 [some (.ref 1), some (.int l1), some (.int l2)] [] (SC bo) im Q := by
  refine V.iconst (v := 0) dX2_isShut_39 (by decide) ?_
  exact k
theorem bX2_isShut_40 {d : Nat} {b : Nat × Nat} {bo : Bool} {im : XI} {Q : Option Value → XS → XI → Prop} {l1 : Int32} {l2 : Int32} {s0 : Int32} (g0 : s0 = 0 ∨ s0 = 1) (hq : Q (some (.int s0)) (SC bo) im) : V mX2_isShut d b 40 [some (.ref 1), some (.int l1), some (.int l2)] [.int s0] (SC bo) im Q := by
  exact V.zret rfl g0 dX2_isShut_40 hq
theorem bX2_shutSet_0 {d : Nat} {b : Nat × Nat} {bo : Bool} {im : XI} {Q : Option Value → XS → XI → Prop} {l1 : Int32}  (k : V mX2_shutSet d b 4 [some (.ref 1), some (.int l1), some (.int (0 : Int32)), some (.int (0 : Int32))] [] (SC bo) im Q) : V mX2_shutSet d b 0 [some (.ref 1), some (.int l1), none, none] [] (SC bo) im Q := by
  refine V.iconst (v := 0) dX2_shutSet_0 (by decide) ?_
  refine V.istore_n dX2_shutSet_1 rfl rfl rfl ?_
  refine V.iconst (v := 0) dX2_shutSet_2 (by decide) ?_
  refine V.istore_n dX2_shutSet_3 rfl rfl rfl ?_
  exact k
theorem bX2_shutSet_4 {d : Nat} {b : Nat × Nat} {bo : Bool} {im : XI} {Q : Option Value → XS → XI → Prop} {l1 : Int32} {l2 : Int32} {l3 : Int32}  (kt : (im 1 6) ≤ l3 → V mX2_shutSet d b 51 [some (.ref 1), some (.int l1), some (.int l2), some (.int l3)] [] (SC bo) im Q) (kf : ¬ (im 1 6) ≤ l3 → V mX2_shutSet d b 12 [some (.ref 1), some (.int l1), some (.int l2), some (.int l3)] [] (SC bo) im Q) : V mX2_shutSet d b 4 [some (.ref 1), some (.int l1), some (.int l2), some (.int l3)] [] (SC bo) im Q := by
  refine V.iload_n dX2_shutSet_4 rfl rfl ?_
  refine V.aload_n dX2_shutSet_5 rfl rfl ?_
  refine V.getI fX2_64 rfl (by rfl) dX2_shutSet_6 ?_
  refine V.icmp_ge (tgt := 51) dX2_shutSet_9 (by decide) (fun h => ?_) (fun h => ?_)
  · exact kt h
  · exact kf h
theorem bX2_shutSet_12 {d : Nat} {b : Nat × Nat} {bo : Bool} {im : XI} {Q : Option Value → XS → XI → Prop} {l1 : Int32} {l2 : Int32} {l3 : Int32} {i1 : Nat} {P : Int32 → XI → Prop} (g0 : l3 = nI i1) (g1 : i1 < 6) (hs : SpI mX2_isShutBy d [.ref 1, .int l3, .int l1, .int (im (16 + i1) 2), .int (im (16 + i1) 3)] (SC bo) im P) (k : ∀ x2 im2, P x2 im2 → V mX2_shutSet (d + 1) b 36 [some (.ref 1), some (.int l1), some (.int l2), some (.int l3)] [.int x2] (SC bo) im2 Q) : V mX2_shutSet (d + 1) b 12 [some (.ref 1), some (.int l1), some (.int l2), some (.int l3)] [] (SC bo) im Q := by
  refine V.aload_n dX2_shutSet_12 rfl rfl ?_
  refine V.iload_n dX2_shutSet_13 rfl rfl ?_
  refine V.iload_n dX2_shutSet_14 rfl rfl ?_
  refine V.aload_n dX2_shutSet_15 rfl rfl ?_
  refine V.getR fX2_11 rfl (by rfl) (by rfl) dX2_shutSet_16 ?_
  refine V.iload_n dX2_shutSet_19 rfl rfl ?_
  refine V.aald (i := i1) ⟨by rfl, by rfl, by rfl⟩ g0 g1 (xpeople g1) dX2_shutSet_20 ?_
  refine V.getI fX2_92 rfl (xperson g1) dX2_shutSet_21 ?_
  refine V.aload_n dX2_shutSet_24 rfl rfl ?_
  refine V.getR fX2_11 rfl (by rfl) (by rfl) dX2_shutSet_25 ?_
  refine V.iload_n dX2_shutSet_28 rfl rfl ?_
  refine V.aald (i := i1) ⟨by rfl, by rfl, by rfl⟩ g0 g1 (xpeople g1) dX2_shutSet_29 ?_
  refine V.getI fX2_95 rfl (xperson g1) dX2_shutSet_30 ?_
  refine V.cVI rfl vX2_isShutBy lkX2_98 wX2_isShutBy (ci := 2) rfl (by rfl) (As := [.int l3, .int l1, .int (im (16 + i1) 2), .int (im (16 + i1) 3)]) rfl rfl rfl dX2_shutSet_33 hs (fun x2 im2 h2 => ?_)
  exact k x2 im2 h2
theorem bX2_shutSet_36 {d : Nat} {b : Nat × Nat} {bo : Bool} {im : XI} {Q : Option Value → XS → XI → Prop} {l1 : Int32} {l2 : Int32} {l3 : Int32} {s0 : Int32}  (kt : s0 = 0 → V mX2_shutSet d b 45 [some (.ref 1), some (.int l1), some (.int l2), some (.int l3)] [] (SC bo) im Q) (kf : ¬ s0 = 0 → V mX2_shutSet d b 39 [some (.ref 1), some (.int l1), some (.int l2), some (.int l3)] [] (SC bo) im Q) : V mX2_shutSet d b 36 [some (.ref 1), some (.int l1), some (.int l2), some (.int l3)] [.int s0] (SC bo) im Q := by
  refine V.if_eq (tgt := 45) dX2_shutSet_36 (by decide) (fun h => ?_) (fun h => ?_)
  · exact kt h
  · exact kf h
theorem bX2_shutSet_39 {d : Nat} {b : Nat × Nat} {bo : Bool} {im : XI} {Q : Option Value → XS → XI → Prop} {l1 : Int32} {l2 : Int32} {l3 : Int32}  (k : V mX2_shutSet d b 45 [some (.ref 1), some (.int l1), some (.int (l2 ||| ((1 : Int32) <<< (l3 &&& 31)))), some (.int l3)] [] (SC bo) im Q) : V mX2_shutSet d b 39 [some (.ref 1), some (.int l1), some (.int l2), some (.int l3)] [] (SC bo) im Q := by
  refine V.iload_n dX2_shutSet_39 rfl rfl ?_
  refine V.iconst (v := 1) dX2_shutSet_40 (by decide) ?_
  refine V.iload_n dX2_shutSet_41 rfl rfl ?_
  refine V.ishl dX2_shutSet_42 ?_
  refine V.ior dX2_shutSet_43 ?_
  refine V.istore_n dX2_shutSet_44 rfl rfl rfl ?_
  exact k
theorem bX2_shutSet_45 {d : Nat} {b : Nat × Nat} {bo : Bool} {im : XI} {Q : Option Value → XS → XI → Prop} {l1 : Int32} {l2 : Int32} {l3 : Int32}  (k : V mX2_shutSet d b 4 [some (.ref 1), some (.int l1), some (.int l2), some (.int (l3 + (1 : Int32)))] [] (SC bo) im Q) : V mX2_shutSet d b 45 [some (.ref 1), some (.int l1), some (.int l2), some (.int l3)] [] (SC bo) im Q := by
  refine V.iinc (v := (l3 + (1 : Int32))) dX2_shutSet_45 rfl rfl rfl ?_
  refine V.goto (tgt := 4) dX2_shutSet_48 (by decide) ?_
  exact k
theorem bX2_shutSet_51 {d : Nat} {b : Nat × Nat} {bo : Bool} {im : XI} {Q : Option Value → XS → XI → Prop} {l1 : Int32} {l2 : Int32} {l3 : Int32}  (hq : Q (some (.int l2)) (SC bo) im) : V mX2_shutSet d b 51 [some (.ref 1), some (.int l1), some (.int l2), some (.int l3)] [] (SC bo) im Q := by
  refine V.iload_n dX2_shutSet_51 rfl rfl ?_
  exact V.iret rfl dX2_shutSet_52 hq
theorem bX2_isMoment_0 {d : Nat} {b : Nat × Nat} {bo : Bool} {im : XI} {Q : Option Value → XS → XI → Prop} {l1 : Int32} {l2 : Int32}  (k : V mX2_isMoment d b 2 [some (.ref 1), some (.int l1), some (.int l2), some (.int (0 : Int32))] [] (SC bo) im Q) : V mX2_isMoment d b 0 [some (.ref 1), some (.int l1), some (.int l2), none] [] (SC bo) im Q := by
  refine V.iconst (v := 0) dX2_isMoment_0 (by decide) ?_
  refine V.istore_n dX2_isMoment_1 rfl rfl rfl ?_
  exact k
theorem bX2_isMoment_2 {d : Nat} {b : Nat × Nat} {bo : Bool} {im : XI} {Q : Option Value → XS → XI → Prop} {l1 : Int32} {l2 : Int32} {l3 : Int32}  (kt : (im 1 6) ≤ l3 → V mX2_isMoment d b 35 [some (.ref 1), some (.int l1), some (.int l2), some (.int l3)] [] (SC bo) im Q) (kf : ¬ (im 1 6) ≤ l3 → V mX2_isMoment d b 10 [some (.ref 1), some (.int l1), some (.int l2), some (.int l3)] [] (SC bo) im Q) : V mX2_isMoment d b 2 [some (.ref 1), some (.int l1), some (.int l2), some (.int l3)] [] (SC bo) im Q := by
  refine V.iload_n dX2_isMoment_2 rfl rfl ?_
  refine V.aload_n dX2_isMoment_3 rfl rfl ?_
  refine V.getI fX2_64 rfl (by rfl) dX2_isMoment_4 ?_
  refine V.icmp_ge (tgt := 35) dX2_isMoment_7 (by decide) (fun h => ?_) (fun h => ?_)
  · exact kt h
  · exact kf h
theorem bX2_isMoment_10 {d : Nat} {b : Nat × Nat} {bo : Bool} {im : XI} {Q : Option Value → XS → XI → Prop} {l1 : Int32} {l2 : Int32} {l3 : Int32} {P : Int32 → XI → Prop}  (hs : SpI mX9_holds d [.int l1, .int l3] (SC bo) im P) (k : ∀ x2 im2, P x2 im2 → V mX2_isMoment (d + 1) b 15 [some (.ref 1), some (.int l1), some (.int l2), some (.int l3)] [.int x2] (SC bo) im2 Q) : V mX2_isMoment (d + 1) b 10 [some (.ref 1), some (.int l1), some (.int l2), some (.int l3)] [] (SC bo) im Q := by
  refine V.iload_n dX2_isMoment_10 rfl rfl ?_
  refine V.iload_n dX2_isMoment_11 rfl rfl ?_
  refine V.cSI rfl vX9_holds lkX2_102 sX9_holds (As := [.int l1, .int l3]) rfl rfl rfl dX2_isMoment_12 hs (fun x2 im2 h2 => ?_)
  exact k x2 im2 h2
theorem bX2_isMoment_15 {d : Nat} {b : Nat × Nat} {bo : Bool} {im : XI} {Q : Option Value → XS → XI → Prop} {l1 : Int32} {l2 : Int32} {l3 : Int32} {s0 : Int32}  (kt : s0 = 0 → V mX2_isMoment d b 29 [some (.ref 1), some (.int l1), some (.int l2), some (.int l3)] [] (SC bo) im Q) (kf : ¬ s0 = 0 → V mX2_isMoment d b 18 [some (.ref 1), some (.int l1), some (.int l2), some (.int l3)] [] (SC bo) im Q) : V mX2_isMoment d b 15 [some (.ref 1), some (.int l1), some (.int l2), some (.int l3)] [.int s0] (SC bo) im Q := by
  refine V.if_eq (tgt := 29) dX2_isMoment_15 (by decide) (fun h => ?_) (fun h => ?_)
  · exact kt h
  · exact kf h
theorem bX2_isMoment_18 {d : Nat} {b : Nat × Nat} {bo : Bool} {im : XI} {Q : Option Value → XS → XI → Prop} {l1 : Int32} {l2 : Int32} {l3 : Int32} {P : Int32 → XI → Prop}  (hs : SpI mX2_isShut d [.ref 1, .int l3, .int l2] (SC bo) im P) (k : ∀ x2 im2, P x2 im2 → V mX2_isMoment (d + 1) b 24 [some (.ref 1), some (.int l1), some (.int l2), some (.int l3)] [.int x2] (SC bo) im2 Q) : V mX2_isMoment (d + 1) b 18 [some (.ref 1), some (.int l1), some (.int l2), some (.int l3)] [] (SC bo) im Q := by
  refine V.aload_n dX2_isMoment_18 rfl rfl ?_
  refine V.iload_n dX2_isMoment_19 rfl rfl ?_
  refine V.iload_n dX2_isMoment_20 rfl rfl ?_
  refine V.cVI rfl vX2_isShut lkX2_105 wX2_isShut (ci := 2) rfl (by rfl) (As := [.int l3, .int l2]) rfl rfl rfl dX2_isMoment_21 hs (fun x2 im2 h2 => ?_)
  exact k x2 im2 h2
theorem bX2_isMoment_24 {d : Nat} {b : Nat × Nat} {bo : Bool} {im : XI} {Q : Option Value → XS → XI → Prop} {l1 : Int32} {l2 : Int32} {l3 : Int32} {s0 : Int32}  (kt : ¬ s0 = 0 → V mX2_isMoment d b 29 [some (.ref 1), some (.int l1), some (.int l2), some (.int l3)] [] (SC bo) im Q) (kf : s0 = 0 → V mX2_isMoment d b 27 [some (.ref 1), some (.int l1), some (.int l2), some (.int l3)] [] (SC bo) im Q) : V mX2_isMoment d b 24 [some (.ref 1), some (.int l1), some (.int l2), some (.int l3)] [.int s0] (SC bo) im Q := by
  refine V.if_ne (tgt := 29) dX2_isMoment_24 (by decide) (fun h => ?_) (fun h => ?_)
  · exact kt h
  · exact kf h
theorem bX2_isMoment_27 {d : Nat} {b : Nat × Nat} {bo : Bool} {im : XI} {Q : Option Value → XS → XI → Prop} {l1 : Int32} {l2 : Int32} {l3 : Int32}  (hq : Q (some (.int (0 : Int32))) (SC bo) im) : V mX2_isMoment d b 27 [some (.ref 1), some (.int l1), some (.int l2), some (.int l3)] [] (SC bo) im Q := by
  refine V.iconst (v := 0) dX2_isMoment_27 (by decide) ?_
  exact V.zret rfl (by decide) dX2_isMoment_28 hq
theorem bX2_isMoment_29 {d : Nat} {b : Nat × Nat} {bo : Bool} {im : XI} {Q : Option Value → XS → XI → Prop} {l1 : Int32} {l2 : Int32} {l3 : Int32}  (k : V mX2_isMoment d b 2 [some (.ref 1), some (.int l1), some (.int l2), some (.int (l3 + (1 : Int32)))] [] (SC bo) im Q) : V mX2_isMoment d b 29 [some (.ref 1), some (.int l1), some (.int l2), some (.int l3)] [] (SC bo) im Q := by
  refine V.iinc (v := (l3 + (1 : Int32))) dX2_isMoment_29 rfl rfl rfl ?_
  refine V.goto (tgt := 2) dX2_isMoment_32 (by decide) ?_
  exact k
theorem bX2_isMoment_35 {d : Nat} {b : Nat × Nat} {bo : Bool} {im : XI} {Q : Option Value → XS → XI → Prop} {l1 : Int32} {l2 : Int32} {l3 : Int32}  (hq : Q (some (.int (1 : Int32))) (SC bo) im) : V mX2_isMoment d b 35 [some (.ref 1), some (.int l1), some (.int l2), some (.int l3)] [] (SC bo) im Q := by
  refine V.iconst (v := 1) dX2_isMoment_35 (by decide) ?_
  exact V.zret rfl (by decide) dX2_isMoment_36 hq
theorem bX2_getsOnBy_0 {d : Nat} {b : Nat × Nat} {bo : Bool} {im : XI} {Q : Option Value → XS → XI → Prop} {l1 : Nat} {l2 : Int32} {l3 : Int32} {P : Int32 → XI → Prop} (g0 : (SC bo).1[l1]? = some (.inl 0)) (hs : SpI mX2_hasPerson d [.ref 1, .int (im l1 0)] (SC bo) im P) (k : ∀ x2 im2, P x2 im2 → V mX2_getsOnBy (d + 1) b 8 [some (.ref 1), some (.ref l1), some (.int l2), some (.int l3), none, none] [.int x2] (SC bo) im2 Q) : V mX2_getsOnBy (d + 1) b 0 [some (.ref 1), some (.ref l1), some (.int l2), some (.int l3), none, none] [] (SC bo) im Q := by
  refine V.aload_n dX2_getsOnBy_0 rfl rfl ?_
  refine V.aload_n dX2_getsOnBy_1 rfl rfl ?_
  refine V.getI fX2_108 rfl g0 dX2_getsOnBy_2 ?_
  refine V.cVI rfl vX2_hasPerson lkX2_77 wX2_hasPerson (ci := 2) rfl (by rfl) (As := [.int (im l1 0)]) rfl rfl rfl dX2_getsOnBy_5 hs (fun x2 im2 h2 => ?_)
  exact k x2 im2 h2
theorem bX2_getsOnBy_8 {d : Nat} {b : Nat × Nat} {bo : Bool} {im : XI} {Q : Option Value → XS → XI → Prop} {l1 : Nat} {l2 : Int32} {l3 : Int32} {s0 : Int32}  (kt : s0 = 0 → V mX2_getsOnBy d b 30 [some (.ref 1), some (.ref l1), some (.int l2), some (.int l3), none, none] [] (SC bo) im Q) (kf : ¬ s0 = 0 → V mX2_getsOnBy d b 11 [some (.ref 1), some (.ref l1), some (.int l2), some (.int l3), none, none] [] (SC bo) im Q) : V mX2_getsOnBy d b 8 [some (.ref 1), some (.ref l1), some (.int l2), some (.int l3), none, none] [.int s0] (SC bo) im Q := by
  refine V.if_eq (tgt := 30) dX2_getsOnBy_8 (by decide) (fun h => ?_) (fun h => ?_)
  · exact kt h
  · exact kf h
theorem bX2_getsOnBy_11 {d : Nat} {b : Nat × Nat} {bo : Bool} {im : XI} {Q : Option Value → XS → XI → Prop} {l1 : Nat} {l2 : Int32} {l3 : Int32} {i1 : Nat} {P : Int32 → XI → Prop} (g0 : (SC bo).1[l1]? = some (.inl 0)) (g1 : (im l1 0) = nI i1) (g2 : i1 < 6) (hs : SpI mX4_tries d [.ref (16 + i1), .int (im 1 7)] (SC bo) im P) (k : ∀ x2 im2, P x2 im2 → V mX2_getsOnBy (d + 1) b 27 [some (.ref 1), some (.ref l1), some (.int l2), some (.int l3), none, none] [.int x2] (SC bo) im2 Q) : V mX2_getsOnBy (d + 1) b 11 [some (.ref 1), some (.ref l1), some (.int l2), some (.int l3), none, none] [] (SC bo) im Q := by
  refine V.aload_n dX2_getsOnBy_11 rfl rfl ?_
  refine V.getR fX2_11 rfl (by rfl) (by rfl) dX2_getsOnBy_12 ?_
  refine V.aload_n dX2_getsOnBy_15 rfl rfl ?_
  refine V.getI fX2_108 rfl g0 dX2_getsOnBy_16 ?_
  refine V.aald (i := i1) ⟨by rfl, by rfl, by rfl⟩ g1 g2 (xpeople g2) dX2_getsOnBy_19 ?_
  refine V.aload_n dX2_getsOnBy_20 rfl rfl ?_
  refine V.getI fX2_67 rfl (by rfl) dX2_getsOnBy_21 ?_
  refine V.cVI rfl vX4_tries lkX2_111 wX4_tries (ci := 4) rfl (xperson g2) (As := [.int (im 1 7)]) rfl rfl rfl dX2_getsOnBy_24 hs (fun x2 im2 h2 => ?_)
  exact k x2 im2 h2
theorem bX2_getsOnBy_27 {d : Nat} {b : Nat × Nat} {bo : Bool} {im : XI} {Q : Option Value → XS → XI → Prop} {l1 : Nat} {l2 : Int32} {l3 : Int32} {s0 : Int32}  (k : V mX2_getsOnBy d b 31 [some (.ref 1), some (.ref l1), some (.int l2), some (.int l3), none, none] [.int s0] (SC bo) im Q) : V mX2_getsOnBy d b 27 [some (.ref 1), some (.ref l1), some (.int l2), some (.int l3), none, none] [.int s0] (SC bo) im Q := by
  refine V.goto (tgt := 31) dX2_getsOnBy_27 (by decide) ?_
  exact k
theorem bX2_getsOnBy_30 {d : Nat} {b : Nat × Nat} {bo : Bool} {im : XI} {Q : Option Value → XS → XI → Prop} {l1 : Nat} {l2 : Int32} {l3 : Int32}  (k : V mX2_getsOnBy d b 31 [some (.ref 1), some (.ref l1), some (.int l2), some (.int l3), none, none] [.int (0 : Int32)] (SC bo) im Q) : V mX2_getsOnBy d b 30 [some (.ref 1), some (.ref l1), some (.int l2), some (.int l3), none, none] [] (SC bo) im Q := by
  refine V.iconst (v := 0) dX2_getsOnBy_30 (by decide) ?_
  exact k
theorem bX2_getsOnBy_31 {d : Nat} {b : Nat × Nat} {bo : Bool} {im : XI} {Q : Option Value → XS → XI → Prop} {l1 : Nat} {l2 : Int32} {l3 : Int32} {s0 : Int32} {P : Int32 → XI → Prop} (g0 : (SC bo).1[l1]? = some (.inl 0)) (hs : SpI mJ6_bitCount_0f7a4 d [.int (l3 &&& (((1 : Int32) <<< ((im l1 0) &&& 31)) ^^^ (-1 : Int32)))] (SC bo) im P) (k : ∀ x2 im2, P x2 im2 → V mX2_getsOnBy (d + 1) b 46 [some (.ref 1), some (.ref l1), some (.int l2), some (.int l3), some (.int s0), none] [.int x2] (SC bo) im2 Q) : V mX2_getsOnBy (d + 1) b 31 [some (.ref 1), some (.ref l1), some (.int l2), some (.int l3), none, none] [.int s0] (SC bo) im Q := by
  refine V.istore dX2_getsOnBy_31 rfl rfl ?_
  refine V.iload_n dX2_getsOnBy_33 rfl rfl ?_
  refine V.iconst (v := 1) dX2_getsOnBy_34 (by decide) ?_
  refine V.aload_n dX2_getsOnBy_35 rfl rfl ?_
  refine V.getI fX2_108 rfl g0 dX2_getsOnBy_36 ?_
  refine V.ishl dX2_getsOnBy_39 ?_
  refine V.iconst (v := -1) dX2_getsOnBy_40 (by decide) ?_
  refine V.ixor dX2_getsOnBy_41 ?_
  refine V.iand dX2_getsOnBy_42 ?_
  refine V.cSI rfl vJ6_bitCount_0f7a4 lkX2_115 sJ6_bitCount_0f7a4 (As := [.int (l3 &&& (((1 : Int32) <<< ((im l1 0) &&& 31)) ^^^ (-1 : Int32)))]) rfl rfl rfl dX2_getsOnBy_43 hs (fun x2 im2 h2 => ?_)
  exact k x2 im2 h2
theorem bX2_getsOnBy_46 {d : Nat} {b : Nat × Nat} {bo : Bool} {im : XI} {Q : Option Value → XS → XI → Prop} {l1 : Nat} {l2 : Int32} {l3 : Int32} {l4 : Int32} {s0 : Int32} {P : Int32 → XI → Prop}  (hs : SpI mX3_gives d [.ref 8, .int l4, .int s0, .int l2] (SC bo) im P) (k : ∀ x2 im2, P x2 im2 → V mX2_getsOnBy (d + 1) b 60 [some (.ref 1), some (.ref l1), some (.int l2), some (.int l3), some (.int l4), some (.int s0)] [.int x2] (SC bo) im2 Q) : V mX2_getsOnBy (d + 1) b 46 [some (.ref 1), some (.ref l1), some (.int l2), some (.int l3), some (.int l4), none] [.int s0] (SC bo) im Q := by
  refine V.istore dX2_getsOnBy_46 rfl rfl ?_
  refine V.aload_n dX2_getsOnBy_48 rfl rfl ?_
  refine V.getR fX2_32 rfl (by rfl) (by rfl) dX2_getsOnBy_49 ?_
  refine V.iload dX2_getsOnBy_52 rfl ?_
  refine V.iload dX2_getsOnBy_54 rfl ?_
  refine V.iload_n dX2_getsOnBy_56 rfl rfl ?_
  refine V.cVI rfl vX3_gives lkX2_89 wX3_gives (ci := 3) rfl (by rfl) (As := [.int l4, .int s0, .int l2]) rfl rfl rfl dX2_getsOnBy_57 hs (fun x2 im2 h2 => ?_)
  exact k x2 im2 h2
theorem bX2_getsOnBy_60 {d : Nat} {b : Nat × Nat} {bo : Bool} {im : XI} {Q : Option Value → XS → XI → Prop} {l1 : Nat} {l2 : Int32} {l3 : Int32} {l4 : Int32} {l5 : Int32} {s0 : Int32}  (hq : Q (some (.int s0)) (SC bo) im) : V mX2_getsOnBy d b 60 [some (.ref 1), some (.ref l1), some (.int l2), some (.int l3), some (.int l4), some (.int l5)] [.int s0] (SC bo) im Q := by
  exact V.iret rfl dX2_getsOnBy_60 hq
theorem bX2_leftBehindTick_0 {d : Nat} {b : Nat × Nat} {bo : Bool} {im : XI} {Q : Option Value → XS → XI → Prop} {l1 : Nat} {l2 : Int32} {l3 : Int32} {l4 : Int32}  (kt : l2 = 0 → V mX2_leftBehindTick d b 13 [some (.ref 1), some (.ref l1), some (.int l2), some (.int l3), some (.int l4)] [] (SC bo) im Q) (kf : ¬ l2 = 0 → V mX2_leftBehindTick d b 4 [some (.ref 1), some (.ref l1), some (.int l2), some (.int l3), some (.int l4)] [] (SC bo) im Q) : V mX2_leftBehindTick d b 0 [some (.ref 1), some (.ref l1), some (.int l2), some (.int l3), some (.int l4)] [] (SC bo) im Q := by
  refine V.iload_n dX2_leftBehindTick_0 rfl rfl ?_
  refine V.if_eq (tgt := 13) dX2_leftBehindTick_1 (by decide) (fun h => ?_) (fun h => ?_)
  · exact kt h
  · exact kf h
theorem bX2_leftBehindTick_4 {d : Nat} {b : Nat × Nat} {bo : Bool} {im : XI} {Q : Option Value → XS → XI → Prop} {l1 : Nat} {l2 : Int32} {l3 : Int32} {l4 : Int32}  (kt : (l3 &&& (l4 ^^^ (-1 : Int32))) = 0 → V mX2_leftBehindTick d b 15 [some (.ref 1), some (.ref l1), some (.int l2), some (.int l3), some (.int l4)] [] (SC bo) im Q) (kf : ¬ (l3 &&& (l4 ^^^ (-1 : Int32))) = 0 → V mX2_leftBehindTick d b 13 [some (.ref 1), some (.ref l1), some (.int l2), some (.int l3), some (.int l4)] [] (SC bo) im Q) : V mX2_leftBehindTick d b 4 [some (.ref 1), some (.ref l1), some (.int l2), some (.int l3), some (.int l4)] [] (SC bo) im Q := by
  refine V.iload_n dX2_leftBehindTick_4 rfl rfl ?_
  refine V.iload dX2_leftBehindTick_5 rfl ?_
  refine V.iconst (v := -1) dX2_leftBehindTick_7 (by decide) ?_
  refine V.ixor dX2_leftBehindTick_8 ?_
  refine V.iand dX2_leftBehindTick_9 ?_
  refine V.if_eq (tgt := 15) dX2_leftBehindTick_10 (by decide) (fun h => ?_) (fun h => ?_)
  · exact kt h
  · exact kf h
theorem bX2_leftBehindTick_13 {d : Nat} {b : Nat × Nat} {bo : Bool} {im : XI} {Q : Option Value → XS → XI → Prop} {l1 : Nat} {l2 : Int32} {l3 : Int32} {l4 : Int32}  (hq : Q (some (.int l2)) (SC bo) im) : V mX2_leftBehindTick d b 13 [some (.ref 1), some (.ref l1), some (.int l2), some (.int l3), some (.int l4)] [] (SC bo) im Q := by
  refine V.iload_n dX2_leftBehindTick_13 rfl rfl ?_
  exact V.iret rfl dX2_leftBehindTick_14 hq
theorem bX2_leftBehindTick_15 {d : Nat} {b : Nat × Nat} {bo : Bool} {im : XI} {Q : Option Value → XS → XI → Prop} {l1 : Nat} {l2 : Int32} {l3 : Int32} {l4 : Int32} {P : Int32 → XI → Prop}  (hs : SpI mX2_getsOnBy d [.ref 1, .ref l1, .int l2, .int l4] (SC bo) im P) (k : ∀ x2 im2, P x2 im2 → V mX2_leftBehindTick (d + 1) b 25 [some (.ref 1), some (.ref l1), some (.int l2), some (.int l3), some (.int l4)] [.int x2, .int l2, .int (0 : Int32)] (SC bo) im2 Q) : V mX2_leftBehindTick (d + 1) b 15 [some (.ref 1), some (.ref l1), some (.int l2), some (.int l3), some (.int l4)] [] (SC bo) im Q := by
  refine V.iconst (v := 0) dX2_leftBehindTick_15 (by decide) ?_
  refine V.iload_n dX2_leftBehindTick_16 rfl rfl ?_
  refine V.aload_n dX2_leftBehindTick_17 rfl rfl ?_
  refine V.aload_n dX2_leftBehindTick_18 rfl rfl ?_
  refine V.iload_n dX2_leftBehindTick_19 rfl rfl ?_
  refine V.iload dX2_leftBehindTick_20 rfl ?_
  refine V.cVI rfl vX2_getsOnBy lkX2_120 wX2_getsOnBy (ci := 2) rfl (by rfl) (As := [.ref l1, .int l2, .int l4]) rfl rfl rfl dX2_leftBehindTick_22 hs (fun x2 im2 h2 => ?_)
  exact k x2 im2 h2
theorem bX2_leftBehindTick_25 {d : Nat} {b : Nat × Nat} {bo : Bool} {im : XI} {Q : Option Value → XS → XI → Prop} {l1 : Nat} {l2 : Int32} {l3 : Int32} {l4 : Int32} {s0 : Int32} {s1 : Int32} {s2 : Int32} {P : Int32 → XI → Prop}  (hs : SpI mJ9_max_7cf53 d [.int s0, .int (s1 - s2)] (SC bo) im P) (k : ∀ x2 im2, P x2 im2 → V mX2_leftBehindTick (d + 1) b 29 [some (.ref 1), some (.ref l1), some (.int l2), some (.int l3), some (.int l4)] [.int x2] (SC bo) im2 Q) : V mX2_leftBehindTick (d + 1) b 25 [some (.ref 1), some (.ref l1), some (.int l2), some (.int l3), some (.int l4)] [.int s2, .int s1, .int s0] (SC bo) im Q := by
  refine V.isub dX2_leftBehindTick_25 ?_
  refine V.cSI rfl vJ9_max_7cf53 lkX2_124 sJ9_max_7cf53 (As := [.int s0, .int (s1 - s2)]) rfl rfl rfl dX2_leftBehindTick_26 hs (fun x2 im2 h2 => ?_)
  exact k x2 im2 h2
theorem bX2_leftBehindTick_29 {d : Nat} {b : Nat × Nat} {bo : Bool} {im : XI} {Q : Option Value → XS → XI → Prop} {l1 : Nat} {l2 : Int32} {l3 : Int32} {l4 : Int32} {s0 : Int32}  (hq : Q (some (.int s0)) (SC bo) im) : V mX2_leftBehindTick d b 29 [some (.ref 1), some (.ref l1), some (.int l2), some (.int l3), some (.int l4)] [.int s0] (SC bo) im Q := by
  exact V.iret rfl dX2_leftBehindTick_29 hq
theorem bX2_goBy_0 {d : Nat} {b : Nat × Nat} {bo : Bool} {im : XI} {Q : Option Value → XS → XI → Prop} {P : Int32 → XI → Prop}  (hs : SpI mX2_shutSet d [.ref 1, .int (im 1 8)] (SC bo) im P) (k : ∀ x2 im2, P x2 im2 → V mX2_goBy (d + 1) b 8 [some (.ref 1), none, none, none, none, none] [.int x2] (SC bo) im2 Q) : V mX2_goBy (d + 1) b 0 [some (.ref 1), none, none, none, none, none] [] (SC bo) im Q := by
  refine V.aload_n dX2_goBy_0 rfl rfl ?_
  refine V.aload_n dX2_goBy_1 rfl rfl ?_
  refine V.getI fX2_70 rfl (by rfl) dX2_goBy_2 ?_
  refine V.cVI rfl vX2_shutSet lkX2_130 wX2_shutSet (ci := 2) rfl (by rfl) (As := [.int (im 1 8)]) rfl rfl rfl dX2_goBy_5 hs (fun x2 im2 h2 => ?_)
  exact k x2 im2 h2
theorem bX2_goBy_8 {d : Nat} {b : Nat × Nat} {bo : Bool} {im : XI} {Q : Option Value → XS → XI → Prop} {s0 : Int32}  (k : V mX2_goBy d b 13 [some (.ref 1), some (.int s0), some (.int (0 : Int32)), some (.int (0 : Int32)), none, none] [] (SC bo) im Q) : V mX2_goBy d b 8 [some (.ref 1), none, none, none, none, none] [.int s0] (SC bo) im Q := by
  refine V.istore_n dX2_goBy_8 rfl rfl rfl ?_
  refine V.iconst (v := 0) dX2_goBy_9 (by decide) ?_
  refine V.istore_n dX2_goBy_10 rfl rfl rfl ?_
  refine V.iconst (v := 0) dX2_goBy_11 (by decide) ?_
  refine V.istore_n dX2_goBy_12 rfl rfl rfl ?_
  exact k
theorem bX2_goBy_13 {d : Nat} {b : Nat × Nat} {bo : Bool} {im : XI} {Q : Option Value → XS → XI → Prop} {l1 : Int32} {l2 : Int32} {l3 : Int32}  (kt : (im 1 7) ≤ l3 → V mX2_goBy d b 77 [some (.ref 1), some (.int l1), some (.int l2), some (.int l3), none, none] [] (SC bo) im Q) (kf : ¬ (im 1 7) ≤ l3 → V mX2_goBy d b 21 [some (.ref 1), some (.int l1), some (.int l2), some (.int l3), none, none] [] (SC bo) im Q) : V mX2_goBy d b 13 [some (.ref 1), some (.int l1), some (.int l2), some (.int l3), none, none] [] (SC bo) im Q := by
  refine V.iload_n dX2_goBy_13 rfl rfl ?_
  refine V.aload_n dX2_goBy_14 rfl rfl ?_
  refine V.getI fX2_67 rfl (by rfl) dX2_goBy_15 ?_
  refine V.icmp_ge (tgt := 77) dX2_goBy_18 (by decide) (fun h => ?_) (fun h => ?_)
  · exact kt h
  · exact kf h
theorem bX2_goBy_21 {d : Nat} {b : Nat × Nat} {bo : Bool} {im : XI} {Q : Option Value → XS → XI → Prop} {l1 : Int32} {l2 : Int32} {l3 : Int32} {i1 : Nat} {P : Int32 → XI → Prop} (g0 : l3 = nI i1) (g1 : i1 < 6) (hs : SpI mX2_leftBehindTick d [.ref 1, .ref (22 + i1), .int (im (22 + i1) 1), .int (im (22 + i1) 2), .int l1] (SC bo) im P) (k : ∀ x2 im2, P x2 im2 → V mX2_goBy (d + 1) b 46 [some (.ref 1), some (.int l1), some (.int l2), some (.int l3), some (.ref (22 + i1)), none] [.int x2] (SC bo) im2 Q) : V mX2_goBy (d + 1) b 21 [some (.ref 1), some (.int l1), some (.int l2), some (.int l3), none, none] [] (SC bo) im Q := by
  refine V.aload_n dX2_goBy_21 rfl rfl ?_
  refine V.getR fX2_19 rfl (by rfl) (by rfl) dX2_goBy_22 ?_
  refine V.iload_n dX2_goBy_25 rfl rfl ?_
  refine V.aald (i := i1) ⟨by rfl, by rfl, by rfl⟩ g0 g1 (xdoings g1) dX2_goBy_26 ?_
  refine V.astore dX2_goBy_27 rfl rfl ?_
  refine V.aload_n dX2_goBy_29 rfl rfl ?_
  refine V.aload dX2_goBy_30 rfl ?_
  refine V.aload dX2_goBy_32 rfl ?_
  refine V.getI fX2_133 rfl (xdoing g1) dX2_goBy_34 ?_
  refine V.aload dX2_goBy_37 rfl ?_
  refine V.getI fX2_136 rfl (xdoing g1) dX2_goBy_39 ?_
  refine V.iload_n dX2_goBy_42 rfl rfl ?_
  refine V.cVI rfl vX2_leftBehindTick lkX2_139 wX2_leftBehindTick (ci := 2) rfl (by rfl) (As := [.ref (22 + i1), .int (im (22 + i1) 1), .int (im (22 + i1) 2), .int l1]) rfl rfl rfl dX2_goBy_43 hs (fun x2 im2 h2 => ?_)
  exact k x2 im2 h2
theorem bX2_goBy_46 {d : Nat} {b : Nat × Nat} {bo : Bool} {im : XI} {Q : Option Value → XS → XI → Prop} {l1 : Int32} {l2 : Int32} {l3 : Int32} {l4 : Nat} {s0 : Int32}  (kt : ¬ s0 = 0 → V mX2_goBy d b 64 [some (.ref 1), some (.int l1), some (.int l2), some (.int l3), some (.ref l4), some (.int s0)] [] (SC bo) im Q) (kf : s0 = 0 → V mX2_goBy d b 53 [some (.ref 1), some (.int l1), some (.int l2), some (.int l3), some (.ref l4), some (.int s0)] [] (SC bo) im Q) : V mX2_goBy d b 46 [some (.ref 1), some (.int l1), some (.int l2), some (.int l3), some (.ref l4), none] [.int s0] (SC bo) im Q := by
  refine V.istore dX2_goBy_46 rfl rfl ?_
  refine V.iload dX2_goBy_48 rfl ?_
  refine V.if_ne (tgt := 64) dX2_goBy_50 (by decide) (fun h => ?_) (fun h => ?_)
  · exact kt h
  · exact kf h
theorem bX2_goBy_53 {d : Nat} {b : Nat × Nat} {bo : Bool} {im : XI} {Q : Option Value → XS → XI → Prop} {l1 : Int32} {l2 : Int32} {l3 : Int32} {l4 : Nat} {l5 : Int32} (g0 : (SC bo).1[l4]? = some (.inl 0)) (kt : (im l4 1) ≤ 0 → V mX2_goBy d b 64 [some (.ref 1), some (.int l1), some (.int l2), some (.int l3), some (.ref l4), some (.int l5)] [] (SC bo) im Q) (kf : ¬ (im l4 1) ≤ 0 → V mX2_goBy d b 61 [some (.ref 1), some (.int l1), some (.int l2), some (.int l3), some (.ref l4), some (.int l5)] [] (SC bo) im Q) : V mX2_goBy d b 53 [some (.ref 1), some (.int l1), some (.int l2), some (.int l3), some (.ref l4), some (.int l5)] [] (SC bo) im Q := by
  refine V.aload dX2_goBy_53 rfl ?_
  refine V.getI fX2_133 rfl g0 dX2_goBy_55 ?_
  refine V.if_le (tgt := 64) dX2_goBy_58 (by decide) (fun h => ?_) (fun h => ?_)
  · exact kt h
  · exact kf h
theorem bX2_goBy_61 {d : Nat} {b : Nat × Nat} {bo : Bool} {im : XI} {Q : Option Value → XS → XI → Prop} {l1 : Int32} {l2 : Int32} {l3 : Int32} {l4 : Nat} {l5 : Int32}  (k : V mX2_goBy d b 64 [some (.ref 1), some (.int l1), some (.int (l2 + (1 : Int32))), some (.int l3), some (.ref l4), some (.int l5)] [] (SC bo) im Q) : V mX2_goBy d b 61 [some (.ref 1), some (.int l1), some (.int l2), some (.int l3), some (.ref l4), some (.int l5)] [] (SC bo) im Q := by
  refine V.iinc (v := (l2 + (1 : Int32))) dX2_goBy_61 rfl rfl rfl ?_
  exact k
theorem bX2_goBy_64 {d : Nat} {b : Nat × Nat} {bo : Bool} {im : XI} {Q : Option Value → XS → XI → Prop} {l1 : Int32} {l2 : Int32} {l3 : Int32} {l4 : Nat} {l5 : Int32} (g0 : (SC bo).1[l4]? = some (.inl 0)) (k : V mX2_goBy d b 13 [some (.ref 1), some (.int l1), some (.int l2), some (.int (l3 + (1 : Int32))), none, none] [] (SC bo) (xup im l4 1 l5) Q) : V mX2_goBy d b 64 [some (.ref 1), some (.int l1), some (.int l2), some (.int l3), some (.ref l4), some (.int l5)] [] (SC bo) im Q := by
  refine V.aload dX2_goBy_64 rfl ?_
  refine V.iload dX2_goBy_66 rfl ?_
  refine V.putI fX2_133 (fun h => by cases h) rfl g0 dX2_goBy_68 ?_
  refine V.iinc (v := (l3 + (1 : Int32))) dX2_goBy_71 rfl rfl rfl ?_
  refine V.goto (tgt := 13) dX2_goBy_74 (by decide) ?_
  exact V.weakm [true, true, true, true, false, false] rfl (k)
theorem bX2_goBy_77 {d : Nat} {b : Nat × Nat} {bo : Bool} {im : XI} {Q : Option Value → XS → XI → Prop} {l1 : Int32} {l2 : Int32} {l3 : Int32}  (hq : Q (some (.int l2)) (SC bo) (xup im 1 8 ((im 1 8) + (1 : Int32)))) : V mX2_goBy d b 77 [some (.ref 1), some (.int l1), some (.int l2), some (.int l3), none, none] [] (SC bo) im Q := by
  refine V.aload_n dX2_goBy_77 rfl rfl ?_
  refine V.dup dX2_goBy_78 rfl ?_
  refine V.getI fX2_70 rfl (by rfl) dX2_goBy_79 ?_
  refine V.iconst (v := 1) dX2_goBy_82 (by decide) ?_
  refine V.iadd dX2_goBy_83 ?_
  refine V.putI fX2_70 (fun h => by cases h) rfl (by rfl) dX2_goBy_84 ?_
  refine V.iload_n dX2_goBy_87 rfl rfl ?_
  exact V.iret rfl dX2_goBy_88 hq
theorem bX2_draw_0 {d : Nat} {b : Nat × Nat} {bo : Bool} {im : XI} {Q : Option Value → XS → XI → Prop}   (hq : Q (some (.int ((((xup im 1 9 (((im 1 9) * (1103515245 : Int32)) + (12345 : Int32))) 1 9)).toUInt32 >>> (((8 : Int32)).toUInt32 &&& Int32.toUInt32 31)).toInt32)) (SC bo) (xup im 1 9 (((im 1 9) * (1103515245 : Int32)) + (12345 : Int32)))) : V mX2_draw d b 0 [some (.ref 1)] [] (SC bo) im Q := by
  refine V.aload_n dX2_draw_0 rfl rfl ?_
  refine V.aload_n dX2_draw_1 rfl rfl ?_
  refine V.getI fX2_45 rfl (by rfl) dX2_draw_2 ?_
  refine V.ldc kX2_143 dX2_draw_5 ?_
  refine V.imul dX2_draw_7 ?_
  refine V.sipush (v := 12345) dX2_draw_8 (by decide) ?_
  refine V.iadd dX2_draw_11 ?_
  refine V.putI fX2_45 (fun h => by cases h) rfl (by rfl) dX2_draw_12 ?_
  refine V.aload_n dX2_draw_15 rfl rfl ?_
  refine V.getI fX2_45 rfl (by rfl) dX2_draw_16 ?_
  refine V.bipush (v := 8) dX2_draw_19 (by decide) ?_
  refine V.iushr dX2_draw_21 ?_
  exact V.iret rfl dX2_draw_22 hq
theorem bX2_drawPhase_0 {d : Nat} {b : Nat × Nat} {bo : Bool} {im : XI} {Q : Option Value → XS → XI → Prop}   (kt : (im 1 6) = 0 → V mX2_drawPhase d b 16 [some (.ref 1), none, none] [] (SC bo) im Q) (kf : ¬ (im 1 6) = 0 → V mX2_drawPhase d b 7 [some (.ref 1), none, none] [] (SC bo) im Q) : V mX2_drawPhase d b 0 [some (.ref 1), none, none] [] (SC bo) im Q := by
  refine V.aload_n dX2_drawPhase_0 rfl rfl ?_
  refine V.getI fX2_64 rfl (by rfl) dX2_drawPhase_1 ?_
  refine V.if_eq (tgt := 16) dX2_drawPhase_4 (by decide) (fun h => ?_) (fun h => ?_)
  · exact kt h
  · exact kf h
theorem bX2_drawPhase_7 {d : Nat} {b : Nat × Nat} {bo : Bool} {im : XI} {Q : Option Value → XS → XI → Prop} {P : Int32 → XI → Prop}  (hs : SpI mX2_draw d [.ref 1] (SC bo) im P) (k : ∀ x2 im2, P x2 im2 → V mX2_drawPhase (d + 1) b 11 [some (.ref 1), none, none] [.int x2] (SC bo) im2 Q) : V mX2_drawPhase (d + 1) b 7 [some (.ref 1), none, none] [] (SC bo) im Q := by
  refine V.aload_n dX2_drawPhase_7 rfl rfl ?_
  refine V.cVI rfl vX2_draw lkX2_144 wX2_draw (ci := 2) rfl (by rfl) (As := []) rfl rfl rfl dX2_drawPhase_8 hs (fun x2 im2 h2 => ?_)
  exact k x2 im2 h2
theorem bX2_drawPhase_11 {d : Nat} {b : Nat × Nat} {bo : Bool} {im : XI} {Q : Option Value → XS → XI → Prop} {s0 : Int32}  (kt : (s0 - s0 / (4 : Int32) * (4 : Int32)) = 0 → V mX2_drawPhase d b 17 [some (.ref 1), none, none] [] (SC bo) im Q) (kf : ¬ (s0 - s0 / (4 : Int32) * (4 : Int32)) = 0 → V mX2_drawPhase d b 16 [some (.ref 1), none, none] [] (SC bo) im Q) : V mX2_drawPhase d b 11 [some (.ref 1), none, none] [.int s0] (SC bo) im Q := by
  refine V.iconst (v := 4) dX2_drawPhase_11 (by decide) ?_
  refine V.irem dX2_drawPhase_12 (by decide) ?_
  refine V.if_eq (tgt := 17) dX2_drawPhase_13 (by decide) (fun h => ?_) (fun h => ?_)
  · exact kt h
  · exact kf h
theorem bX2_drawPhase_16 {d : Nat} {b : Nat × Nat} {bo : Bool} {im : XI} {Q : Option Value → XS → XI → Prop}   (hq : Q none (SC bo) im) : V mX2_drawPhase d b 16 [some (.ref 1), none, none] [] (SC bo) im Q := by
  exact V.vret rfl dX2_drawPhase_16 hq
theorem bX2_drawPhase_17 {d : Nat} {b : Nat × Nat} {bo : Bool} {im : XI} {Q : Option Value → XS → XI → Prop} {P : Int32 → XI → Prop}  (hs : SpI mX2_draw d [.ref 1] (SC bo) im P) (k : ∀ x2 im2, P x2 im2 → V mX2_drawPhase (d + 1) b 21 [some (.ref 1), none, none] [.int x2] (SC bo) im2 Q) : V mX2_drawPhase (d + 1) b 17 [some (.ref 1), none, none] [] (SC bo) im Q := by
  refine V.aload_n dX2_drawPhase_17 rfl rfl ?_
  refine V.cVI rfl vX2_draw lkX2_144 wX2_draw (ci := 2) rfl (by rfl) (As := []) rfl rfl rfl dX2_drawPhase_18 hs (fun x2 im2 h2 => ?_)
  exact k x2 im2 h2
theorem bX2_drawPhase_21 {d : Nat} {b : Nat × Nat} {bo : Bool} {im : XI} {Q : Option Value → XS → XI → Prop} {s0 : Int32} {P : Int32 → XI → Prop} (g0 : ¬ (im 1 6) = 0) (hs : SpI mX2_draw d [.ref 1] (SC bo) im P) (k : ∀ x2 im2, P x2 im2 → V mX2_drawPhase (d + 1) b 31 [some (.ref 1), some (.int (s0 - s0 / (im 1 6) * (im 1 6))), none] [.int x2] (SC bo) im2 Q) : V mX2_drawPhase (d + 1) b 21 [some (.ref 1), none, none] [.int s0] (SC bo) im Q := by
  refine V.aload_n dX2_drawPhase_21 rfl rfl ?_
  refine V.getI fX2_64 rfl (by rfl) dX2_drawPhase_22 ?_
  refine V.irem dX2_drawPhase_25 g0 ?_
  refine V.istore_n dX2_drawPhase_26 rfl rfl rfl ?_
  refine V.aload_n dX2_drawPhase_27 rfl rfl ?_
  refine V.cVI rfl vX2_draw lkX2_144 wX2_draw (ci := 2) rfl (by rfl) (As := []) rfl rfl rfl dX2_drawPhase_28 hs (fun x2 im2 h2 => ?_)
  exact k x2 im2 h2
theorem bX2_drawPhase_31 {d : Nat} {b : Nat × Nat} {bo : Bool} {im : XI} {Q : Option Value → XS → XI → Prop} {l1 : Int32} {s0 : Int32} {P : Int32 → XI → Prop}  (hs : SpI mX2_hasPerson d [.ref 1, .int l1] (SC bo) im P) (k : ∀ x2 im2, P x2 im2 → V mX2_drawPhase (d + 1) b 37 [some (.ref 1), some (.int l1), some (.int s0)] [.int x2] (SC bo) im2 Q) : V mX2_drawPhase (d + 1) b 31 [some (.ref 1), some (.int l1), none] [.int s0] (SC bo) im Q := by
  refine V.istore_n dX2_drawPhase_31 rfl rfl rfl ?_
  refine V.aload_n dX2_drawPhase_32 rfl rfl ?_
  refine V.iload_n dX2_drawPhase_33 rfl rfl ?_
  refine V.cVI rfl vX2_hasPerson lkX2_77 wX2_hasPerson (ci := 2) rfl (by rfl) (As := [.int l1]) rfl rfl rfl dX2_drawPhase_34 hs (fun x2 im2 h2 => ?_)
  exact k x2 im2 h2
theorem bX2_drawPhase_37 {d : Nat} {b : Nat × Nat} {bo : Bool} {im : XI} {Q : Option Value → XS → XI → Prop} {l1 : Int32} {l2 : Int32} {s0 : Int32}  (kt : s0 = 0 → V mX2_drawPhase d b 63 [some (.ref 1), some (.int l1), some (.int l2)] [] (SC bo) im Q) (kf : ¬ s0 = 0 → V mX2_drawPhase d b 40 [some (.ref 1), some (.int l1), some (.int l2)] [] (SC bo) im Q) : V mX2_drawPhase d b 37 [some (.ref 1), some (.int l1), some (.int l2)] [.int s0] (SC bo) im Q := by
  refine V.if_eq (tgt := 63) dX2_drawPhase_37 (by decide) (fun h => ?_) (fun h => ?_)
  · exact kt h
  · exact kf h
theorem bX2_drawPhase_40 {d : Nat} {b : Nat × Nat} {bo : Bool} {im : XI} {Q : Option Value → XS → XI → Prop} {l1 : Int32} {l2 : Int32} {i1 : Nat} {P : Int32 → XI → Prop} (g0 : l1 = nI i1) (g1 : i1 < 6) (hs : SpI mX9_rest d [.int l2, .int (im (16 + i1) 2), .int (0 : Int32)] (SC bo) im P) (k : ∀ x2 im2, P x2 im2 → V mX2_drawPhase (d + 1) b 60 [some (.ref 1), some (.int l1), some (.int l2)] [.int x2, .ref (16 + i1)] (SC bo) im2 Q) : V mX2_drawPhase (d + 1) b 40 [some (.ref 1), some (.int l1), some (.int l2)] [] (SC bo) im Q := by
  refine V.aload_n dX2_drawPhase_40 rfl rfl ?_
  refine V.getR fX2_11 rfl (by rfl) (by rfl) dX2_drawPhase_41 ?_
  refine V.iload_n dX2_drawPhase_44 rfl rfl ?_
  refine V.aald (i := i1) ⟨by rfl, by rfl, by rfl⟩ g0 g1 (xpeople g1) dX2_drawPhase_45 ?_
  refine V.iload_n dX2_drawPhase_46 rfl rfl ?_
  refine V.aload_n dX2_drawPhase_47 rfl rfl ?_
  refine V.getR fX2_11 rfl (by rfl) (by rfl) dX2_drawPhase_48 ?_
  refine V.iload_n dX2_drawPhase_51 rfl rfl ?_
  refine V.aald (i := i1) ⟨by rfl, by rfl, by rfl⟩ g0 g1 (xpeople g1) dX2_drawPhase_52 ?_
  refine V.getI fX2_92 rfl (xperson g1) dX2_drawPhase_53 ?_
  refine V.iconst (v := 0) dX2_drawPhase_56 (by decide) ?_
  refine V.cSI rfl vX9_rest lkX2_81 sX9_rest (As := [.int l2, .int (im (16 + i1) 2), .int (0 : Int32)]) rfl rfl rfl dX2_drawPhase_57 hs (fun x2 im2 h2 => ?_)
  exact k x2 im2 h2
theorem bX2_drawPhase_60 {d : Nat} {b : Nat × Nat} {bo : Bool} {im : XI} {Q : Option Value → XS → XI → Prop} {l1 : Int32} {l2 : Int32} {s0 : Nat} {s1 : Int32} (g0 : (SC bo).1[s0]? = some (.inl 4)) (k : V mX2_drawPhase d b 63 [some (.ref 1), some (.int l1), some (.int l2)] [] (SC bo) (xup im s0 3 s1) Q) : V mX2_drawPhase d b 60 [some (.ref 1), some (.int l1), some (.int l2)] [.int s1, .ref s0] (SC bo) im Q := by
  refine V.putI fX2_95 (fun h => by cases h) rfl g0 dX2_drawPhase_60 ?_
  exact k
theorem bX2_drawPhase_63 {d : Nat} {b : Nat × Nat} {bo : Bool} {im : XI} {Q : Option Value → XS → XI → Prop} {l1 : Int32} {l2 : Int32}  (hq : Q none (SC bo) im) : V mX2_drawPhase d b 63 [some (.ref 1), some (.int l1), some (.int l2)] [] (SC bo) im Q := by
  exact V.vret rfl dX2_drawPhase_63 hq
theorem bX2_partsTogether_0 {d : Nat} {b : Nat × Nat} {bo : Bool} {im : XI} {Q : Option Value → XS → XI → Prop}   (k : V mX2_partsTogether d b 4 [some (.ref 1), some (.int (0 : Int32)), some (.int (0 : Int32))] [] (SC bo) im Q) : V mX2_partsTogether d b 0 [some (.ref 1), none, none] [] (SC bo) im Q := by
  refine V.iconst (v := 0) dX2_partsTogether_0 (by decide) ?_
  refine V.istore_n dX2_partsTogether_1 rfl rfl rfl ?_
  refine V.iconst (v := 0) dX2_partsTogether_2 (by decide) ?_
  refine V.istore_n dX2_partsTogether_3 rfl rfl rfl ?_
  exact k
theorem bX2_partsTogether_4 {d : Nat} {b : Nat × Nat} {bo : Bool} {im : XI} {Q : Option Value → XS → XI → Prop} {l1 : Int32} {l2 : Int32}  (kt : (im 1 7) ≤ l2 → V mX2_partsTogether d b 30 [some (.ref 1), some (.int l1), some (.int l2)] [] (SC bo) im Q) (kf : ¬ (im 1 7) ≤ l2 → V mX2_partsTogether d b 12 [some (.ref 1), some (.int l1), some (.int l2)] [] (SC bo) im Q) : V mX2_partsTogether d b 4 [some (.ref 1), some (.int l1), some (.int l2)] [] (SC bo) im Q := by
  refine V.iload_n dX2_partsTogether_4 rfl rfl ?_
  refine V.aload_n dX2_partsTogether_5 rfl rfl ?_
  refine V.getI fX2_67 rfl (by rfl) dX2_partsTogether_6 ?_
  refine V.icmp_ge (tgt := 30) dX2_partsTogether_9 (by decide) (fun h => ?_) (fun h => ?_)
  · exact kt h
  · exact kf h
theorem bX2_partsTogether_12 {d : Nat} {b : Nat × Nat} {bo : Bool} {im : XI} {Q : Option Value → XS → XI → Prop} {l1 : Int32} {l2 : Int32} {i1 : Nat} (g0 : l2 = nI i1) (g1 : i1 < 6) (k : V mX2_partsTogether d b 4 [some (.ref 1), some (.int (l1 + (im (22 + i1) 1))), some (.int (l2 + (1 : Int32)))] [] (SC bo) im Q) : V mX2_partsTogether d b 12 [some (.ref 1), some (.int l1), some (.int l2)] [] (SC bo) im Q := by
  refine V.iload_n dX2_partsTogether_12 rfl rfl ?_
  refine V.aload_n dX2_partsTogether_13 rfl rfl ?_
  refine V.getR fX2_19 rfl (by rfl) (by rfl) dX2_partsTogether_14 ?_
  refine V.iload_n dX2_partsTogether_17 rfl rfl ?_
  refine V.aald (i := i1) ⟨by rfl, by rfl, by rfl⟩ g0 g1 (xdoings g1) dX2_partsTogether_18 ?_
  refine V.getI fX2_133 rfl (xdoing g1) dX2_partsTogether_19 ?_
  refine V.iadd dX2_partsTogether_22 ?_
  refine V.istore_n dX2_partsTogether_23 rfl rfl rfl ?_
  refine V.iinc (v := (l2 + (1 : Int32))) dX2_partsTogether_24 rfl rfl rfl ?_
  refine V.goto (tgt := 4) dX2_partsTogether_27 (by decide) ?_
  exact k
theorem bX2_partsTogether_30 {d : Nat} {b : Nat × Nat} {bo : Bool} {im : XI} {Q : Option Value → XS → XI → Prop} {l1 : Int32} {l2 : Int32}  (hq : Q (some (.int l1)) (SC bo) im) : V mX2_partsTogether d b 30 [some (.ref 1), some (.int l1), some (.int l2)] [] (SC bo) im Q := by
  refine V.iload_n dX2_partsTogether_30 rfl rfl ?_
  exact V.iret rfl dX2_partsTogether_31 hq

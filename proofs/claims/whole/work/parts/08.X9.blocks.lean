theorem bX9_init_0 {d : Nat} {b : Nat × Nat} {S : XS} {im : XI} {Q : Option Value → XS → XI → Prop} {l0 : Nat}  (k : V mX9_init (d + 1) b 4 [some (.ref l0), none] [] S im Q) : V mX9_init (d + 1) b 0 [some (.ref l0), none] [] S im Q := by
  refine V.aload_n dX9_init_0 rfl rfl ?_
  refine V.objInit rfl lkX9_3 xoi_in xoi_code rfl dX9_init_1 ?_
  exact k
theorem bX9_init_4 {d : Nat} {b : Nat × Nat} {S : XS} {im : XI} {Q : Option Value → XS → XI → Prop} {l0 : Nat} {b1 : Nat × Nat} {P : XS → XI → Prop} {bc be : Nat × Nat} (g0 : 1 + b1.1 ≤ b.1 ∧ 10 + b1.2 ≤ b.2) (hs : SpC mX2_init d bc [.ref S.1.length] (xpush S (.inl 2)) (xz im S.1.length) P) (hbud : bc.1 + be.1 ≤ b1.1 ∧ bc.2 + be.2 ≤ b1.2) (hP : ∀ S2 im2, P S2 im2 → S2.1.length = ((xpush S (.inl 2))).1.length + bc.1) (k : ∀ S2 im2, P S2 im2 → V mX9_init (d + 1) be 12 [some (.ref l0), none] [.ref S.1.length, .ref l0] S2 im2 Q) : V mX9_init (d + 1) b 4 [some (.ref l0), none] [] S im Q := by
  refine V.aload_n dX9_init_4 rfl rfl ?_
  refine V.new (ci := 2) rfl nwX9_9.1 nwX9_9.2.1 nwX9_9.2.2 g0 dX9_init_5 ?_
  refine V.dup dX9_init_8 rfl ?_
  refine V.cC rfl vX2_init lkX9_11 wX2_init rfl rfl (As := []) rfl rfl rfl dX9_init_9 hs hbud hP (fun S2 im2 h2 => ?_)
  exact k S2 im2 h2
theorem bX9_init_12 {d : Nat} {b : Nat × Nat} {S : XS} {im : XI} {Q : Option Value → XS → XI → Prop} {l0 : Nat} {s0 : Nat} {s1 : Nat} (g0 : S.1[s0]? = some (.inl 9)) (k : V mX9_init d b 15 [some (.ref l0), none] [] (S.1, xur S.2 s0 0 (some s1)) im Q) : V mX9_init d b 12 [some (.ref l0), none] [.ref s1, .ref s0] S im Q := by
  refine V.putR fX9_12 (fun _ => ⟨rfl, TX9, 8, rfl⟩) rfl rfl g0 dX9_init_12 ?_
  exact k
theorem bX9_init_15 {d : Nat} {b : Nat × Nat} {S : XS} {im : XI} {Q : Option Value → XS → XI → Prop} {l0 : Nat} {b1 : Nat × Nat} {r1 : Nat} {r2 : Nat} {P : XS → XI → Prop} {bc be : Nat × Nat} (g0 : 1 + b1.1 ≤ b.1 ∧ 4 + b1.2 ≤ b.2) (g1 : ((xpush S (.inl 5))).1[l0]? = some (.inl 9)) (g2 : ((xpush S (.inl 5))).2 l0 0 = some r1) (g3 : ((xpush S (.inl 5))).1[r1]? = some (.inl 2)) (g4 : ((xpush S (.inl 5))).2 r1 4 = some r2) (hs : SpC mX5_init d bc [.ref S.1.length, .ref r2] (xpush S (.inl 5)) (xz im S.1.length) P) (hbud : bc.1 + be.1 ≤ b1.1 ∧ bc.2 + be.2 ≤ b1.2) (hP : ∀ S2 im2, P S2 im2 → S2.1.length = ((xpush S (.inl 5))).1.length + bc.1) (k : ∀ S2 im2, P S2 im2 → V mX9_init (d + 1) be 30 [some (.ref l0), none] [.ref S.1.length, .ref l0] S2 im2 Q) : V mX9_init (d + 1) b 15 [some (.ref l0), none] [] S im Q := by
  refine V.aload_n dX9_init_15 rfl rfl ?_
  refine V.new (ci := 5) rfl nwX9_16.1 nwX9_16.2.1 nwX9_16.2.2 g0 dX9_init_16 ?_
  refine V.dup dX9_init_19 rfl ?_
  refine V.aload_n dX9_init_20 rfl rfl ?_
  refine V.getR fX9_12 rfl g1 g2 dX9_init_21 ?_
  refine V.getR fX9_18 rfl g3 g4 dX9_init_24 ?_
  refine V.cC rfl vX5_init lkX9_22 wX5_init rfl rfl (As := [.ref r2]) rfl rfl rfl dX9_init_27 hs hbud hP (fun S2 im2 h2 => ?_)
  exact k S2 im2 h2
theorem bX9_init_30 {d : Nat} {b : Nat × Nat} {S : XS} {im : XI} {Q : Option Value → XS → XI → Prop} {l0 : Nat} {s0 : Nat} {s1 : Nat} (g0 : S.1[s0]? = some (.inl 9)) (k : V mX9_init d b 33 [some (.ref l0), none] [] (S.1, xur S.2 s0 1 (some s1)) im Q) : V mX9_init d b 30 [some (.ref l0), none] [.ref s1, .ref s0] S im Q := by
  refine V.putR fX9_25 (fun _ => ⟨rfl, TX9, 8, rfl⟩) rfl rfl g0 dX9_init_30 ?_
  exact k
theorem bX9_init_33 {d : Nat} {b : Nat × Nat} {S : XS} {im : XI} {Q : Option Value → XS → XI → Prop} {l0 : Nat} {b1 : Nat × Nat} {r1 : Nat} {P : XS → XI → Prop} {bc be : Nat × Nat} (g0 : 1 + b1.1 ≤ b.1 ∧ 6 + b1.2 ≤ b.2) (g1 : ((xpush S (.inl 1))).1[l0]? = some (.inl 9)) (g2 : ((xpush S (.inl 1))).2 l0 0 = some r1) (hs : SpC mX1_init d bc [.ref S.1.length, .ref r1] (xpush S (.inl 1)) (xz im S.1.length) P) (hbud : bc.1 + be.1 ≤ b1.1 ∧ bc.2 + be.2 ≤ b1.2) (hP : ∀ S2 im2, P S2 im2 → S2.1.length = ((xpush S (.inl 1))).1.length + bc.1) (k : ∀ S2 im2, P S2 im2 → V mX9_init (d + 1) be 45 [some (.ref l0), none] [.ref S.1.length, .ref l0] S2 im2 Q) : V mX9_init (d + 1) b 33 [some (.ref l0), none] [] S im Q := by
  refine V.aload_n dX9_init_33 rfl rfl ?_
  refine V.new (ci := 1) rfl nwX9_29.1 nwX9_29.2.1 nwX9_29.2.2 g0 dX9_init_34 ?_
  refine V.dup dX9_init_37 rfl ?_
  refine V.aload_n dX9_init_38 rfl rfl ?_
  refine V.getR fX9_12 rfl g1 g2 dX9_init_39 ?_
  refine V.cC rfl vX1_init lkX9_31 wX1_init rfl rfl (As := [.ref r1]) rfl rfl rfl dX9_init_42 hs hbud hP (fun S2 im2 h2 => ?_)
  exact k S2 im2 h2
theorem bX9_init_45 {d : Nat} {b : Nat × Nat} {S : XS} {im : XI} {Q : Option Value → XS → XI → Prop} {l0 : Nat} {s0 : Nat} {s1 : Nat} (g0 : S.1[s0]? = some (.inl 9)) (k : V mX9_init d b 48 [some (.ref l0), none] [] (S.1, xur S.2 s0 2 (some s1)) im Q) : V mX9_init d b 45 [some (.ref l0), none] [.ref s1, .ref s0] S im Q := by
  refine V.putR fX9_34 (fun _ => ⟨rfl, TX9, 8, rfl⟩) rfl rfl g0 dX9_init_45 ?_
  exact k
theorem bX9_init_48 {d : Nat} {b : Nat × Nat} {S : XS} {im : XI} {Q : Option Value → XS → XI → Prop} {l0 : Nat} {b1 : Nat × Nat} {P : XS → XI → Prop} {bc be : Nat × Nat} (g0 : 1 + b1.1 ≤ b.1 ∧ 5 + b1.2 ≤ b.2) (hs : SpC mX8_init d bc [.ref S.1.length] (xpush S (.inl 8)) (xz im S.1.length) P) (hbud : bc.1 + be.1 ≤ b1.1 ∧ bc.2 + be.2 ≤ b1.2) (hP : ∀ S2 im2, P S2 im2 → S2.1.length = ((xpush S (.inl 8))).1.length + bc.1) (k : ∀ S2 im2, P S2 im2 → V mX9_init (d + 1) be 56 [some (.ref l0), none] [.ref S.1.length, .ref l0] S2 im2 Q) : V mX9_init (d + 1) b 48 [some (.ref l0), none] [] S im Q := by
  refine V.aload_n dX9_init_48 rfl rfl ?_
  refine V.new (ci := 8) rfl nwX9_38.1 nwX9_38.2.1 nwX9_38.2.2 g0 dX9_init_49 ?_
  refine V.dup dX9_init_52 rfl ?_
  refine V.cC rfl vX8_init lkX9_40 wX8_init rfl rfl (As := []) rfl rfl rfl dX9_init_53 hs hbud hP (fun S2 im2 h2 => ?_)
  exact k S2 im2 h2
theorem bX9_init_56 {d : Nat} {b : Nat × Nat} {S : XS} {im : XI} {Q : Option Value → XS → XI → Prop} {l0 : Nat} {s0 : Nat} {s1 : Nat} (g0 : S.1[s0]? = some (.inl 9)) (k : V mX9_init d b 59 [some (.ref l0), none] [] (S.1, xur S.2 s0 3 (some s1)) im Q) : V mX9_init d b 56 [some (.ref l0), none] [.ref s1, .ref s0] S im Q := by
  refine V.putR fX9_41 (fun _ => ⟨rfl, TX9, 8, rfl⟩) rfl rfl g0 dX9_init_56 ?_
  exact k
theorem bX9_init_59 {d : Nat} {b : Nat × Nat} {S : XS} {im : XI} {Q : Option Value → XS → XI → Prop} {l0 : Nat} {b1 : Nat × Nat} (g0 : 1 + b1.1 ≤ b.1 ∧ 4 + b1.2 ≤ b.2) (g1 : ((xpush S (.inr (.inr (2, 4))))).1[l0]? = some (.inl 9)) (k : V mX9_init d b1 67 [some (.ref l0), none] [] (((xpush S (.inr (.inr (2, 4))))).1, xur ((xpush S (.inr (.inr (2, 4))))).2 l0 4 (some S.1.length)) (xz im S.1.length) Q) : V mX9_init d b 59 [some (.ref l0), none] [] S im Q := by
  refine V.aload_n dX9_init_59 rfl rfl ?_
  refine V.iconst (v := 4) dX9_init_60 (by decide) ?_
  refine V.newq (t := 2) (n := 4) rfl rfl rfl nqX9_45 g0 dX9_init_61 ?_
  refine V.putR fX9_47 (fun _ => ⟨rfl, TX9, 8, rfl⟩) rfl rfl g1 dX9_init_64 ?_
  exact k
theorem bX9_init_67 {d : Nat} {b : Nat × Nat} {S : XS} {im : XI} {Q : Option Value → XS → XI → Prop} {l0 : Nat} {b1 : Nat × Nat} (g0 : 1 + b1.1 ≤ b.1 ∧ 7 + b1.2 ≤ b.2) (g1 : ((xpush S (.inr (.inl 7)))).1[l0]? = some (.inl 9)) (k : V mX9_init d b1 75 [some (.ref l0), none] [] (((xpush S (.inr (.inl 7)))).1, xur ((xpush S (.inr (.inl 7)))).2 l0 5 (some S.1.length)) (xz im S.1.length) Q) : V mX9_init d b 67 [some (.ref l0), none] [] S im Q := by
  refine V.aload_n dX9_init_67 rfl rfl ?_
  refine V.bipush (v := 7) dX9_init_68 (by decide) ?_
  refine V.newa (n := 7) rfl rfl xai g0 dX9_init_70 ?_
  refine V.putR fX9_51 (fun _ => ⟨rfl, TX9, 8, rfl⟩) rfl rfl g1 dX9_init_72 ?_
  exact k
theorem bX9_init_75 {d : Nat} {b : Nat × Nat} {S : XS} {im : XI} {Q : Option Value → XS → XI → Prop} {l0 : Nat}  (k : V mX9_init d b 77 [some (.ref l0), some (.int (0 : Int32))] [] S im Q) : V mX9_init d b 75 [some (.ref l0), none] [] S im Q := by
  refine V.iconst (v := 0) dX9_init_75 (by decide) ?_
  refine V.istore_n dX9_init_76 rfl rfl rfl ?_
  exact k
theorem bX9_init_77 {d : Nat} {b : Nat × Nat} {S : XS} {im : XI} {Q : Option Value → XS → XI → Prop} {l0 : Nat} {l1 : Int32}  (kt : (4 : Int32) ≤ l1 → V mX9_init d b 101 [some (.ref l0), some (.int l1)] [] S im Q) (kf : ¬ (4 : Int32) ≤ l1 → V mX9_init d b 82 [some (.ref l0), some (.int l1)] [] S im Q) : V mX9_init d b 77 [some (.ref l0), some (.int l1)] [] S im Q := by
  refine V.iload_n dX9_init_77 rfl rfl ?_
  refine V.iconst (v := 4) dX9_init_78 (by decide) ?_
  refine V.icmp_ge (tgt := 101) dX9_init_79 (by decide) (fun h => ?_) (fun h => ?_)
  · exact kt h
  · exact kf h
theorem bX9_init_82 {d : Nat} {b : Nat × Nat} {S : XS} {im : XI} {Q : Option Value → XS → XI → Prop} {l0 : Nat} {l1 : Int32} {r1 : Nat} {b1 : Nat × Nat} {P : XS → XI → Prop} {bc be : Nat × Nat} (g0 : S.1[l0]? = some (.inl 9)) (g1 : S.2 l0 4 = some r1) (g2 : 1 + b1.1 ≤ b.1 ∧ 2 + b1.2 ≤ b.2) (hs : SpC mX7_init d bc [.ref S.1.length] (xpush S (.inl 7)) (xz im S.1.length) P) (hbud : bc.1 + be.1 ≤ b1.1 ∧ bc.2 + be.2 ≤ b1.2) (hP : ∀ S2 im2, P S2 im2 → S2.1.length = ((xpush S (.inl 7))).1.length + bc.1) (k : ∀ S2 im2, P S2 im2 → V mX9_init (d + 1) be 94 [some (.ref l0), some (.int l1)] [.ref S.1.length, .int l1, .ref r1] S2 im2 Q) : V mX9_init (d + 1) b 82 [some (.ref l0), some (.int l1)] [] S im Q := by
  refine V.aload_n dX9_init_82 rfl rfl ?_
  refine V.getR fX9_47 rfl g0 g1 dX9_init_83 ?_
  refine V.iload_n dX9_init_86 rfl rfl ?_
  refine V.new (ci := 7) rfl nwX9_45.1 nwX9_45.2.1 nwX9_45.2.2 g2 dX9_init_87 ?_
  refine V.dup dX9_init_90 rfl ?_
  refine V.cC rfl vX7_init lkX9_55 wX7_init rfl rfl (As := []) rfl rfl rfl dX9_init_91 hs hbud hP (fun S2 im2 h2 => ?_)
  exact k S2 im2 h2
theorem bX9_init_94 {d : Nat} {b : Nat × Nat} {S : XS} {im : XI} {Q : Option Value → XS → XI → Prop} {l0 : Nat} {l1 : Int32} {s0 : Nat} {s1 : Int32} {s2 : Nat} {n1 : Nat} {i2 : Nat} (g0 : XG S s0 2 n1) (g1 : s1 = nI i2) (g2 : i2 < n1) (g3 : S.1[s2]? = some (.inl 7)) (k : V mX9_init d b 95 [some (.ref l0), some (.int l1)] [] (S.1, xur S.2 s0 i2 (some s2)) im Q) : V mX9_init d b 94 [some (.ref l0), some (.int l1)] [.ref s2, .int s1, .ref s0] S im Q := by
  refine V.aast (i := i2) (ci := 7) g0 g1 g2 g3 rfl dX9_init_94 ?_
  exact k
theorem bX9_init_95 {d : Nat} {b : Nat × Nat} {S : XS} {im : XI} {Q : Option Value → XS → XI → Prop} {l0 : Nat} {l1 : Int32}  (k : V mX9_init d b 77 [some (.ref l0), some (.int (l1 + (1 : Int32)))] [] S im Q) : V mX9_init d b 95 [some (.ref l0), some (.int l1)] [] S im Q := by
  refine V.iinc (v := (l1 + (1 : Int32))) dX9_init_95 rfl rfl rfl ?_
  refine V.goto (tgt := 77) dX9_init_98 (by decide) ?_
  exact k
theorem bX9_init_101 {d : Nat} {b : Nat × Nat} {S : XS} {im : XI} {Q : Option Value → XS → XI → Prop} {l0 : Nat} {l1 : Int32}  (hq : Q none S im) : V mX9_init d b 101 [some (.ref l0), some (.int l1)] [] S im Q := by
  exact V.vret rfl dX9_init_101 hq
theorem bX9_person_0 {d : Nat} {b : Nat × Nat} {bo : Bool} {im : XI} {Q : Option Value → XS → XI → Prop} {l1 : Int32} {l2 : Int32} {l3 : Int32} {P : Int32 → XI → Prop}  (hs : SpI mX9_isKindAndNumber d [.int l1] (SC bo) im P) (k : ∀ x2 im2, P x2 im2 → V mX9_person (d + 1) b 4 [some (.ref 0), some (.int l1), some (.int l2), some (.int l3), none, none] [.int x2] (SC bo) im2 Q) : V mX9_person (d + 1) b 0 [some (.ref 0), some (.int l1), some (.int l2), some (.int l3), none, none] [] (SC bo) im Q := by
  refine V.iload_n dX9_person_0 rfl rfl ?_
  refine V.cSI rfl vX9_isKindAndNumber lkX9_56 sX9_isKindAndNumber (As := [.int l1]) rfl rfl rfl dX9_person_1 hs (fun x2 im2 h2 => ?_)
  exact k x2 im2 h2
theorem bX9_person_4 {d : Nat} {b : Nat × Nat} {bo : Bool} {im : XI} {Q : Option Value → XS → XI → Prop} {l1 : Int32} {l2 : Int32} {l3 : Int32} {s0 : Int32}  (kt : s0 = 0 → V mX9_person d b 15 [some (.ref 0), some (.int l1), some (.int l2), some (.int l3), none, none] [] (SC bo) im Q) (kf : ¬ s0 = 0 → V mX9_person d b 7 [some (.ref 0), some (.int l1), some (.int l2), some (.int l3), none, none] [] (SC bo) im Q) : V mX9_person d b 4 [some (.ref 0), some (.int l1), some (.int l2), some (.int l3), none, none] [.int s0] (SC bo) im Q := by
  refine V.if_eq (tgt := 15) dX9_person_4 (by decide) (fun h => ?_) (fun h => ?_)
  · exact kt h
  · exact kf h
theorem bX9_person_7 {d : Nat} {b : Nat × Nat} {bo : Bool} {im : XI} {Q : Option Value → XS → XI → Prop} {l1 : Int32} {l2 : Int32} {l3 : Int32} {P : Int32 → XI → Prop}  (hs : SpI mX9_isBeatAndPhase d [.int l2, .int l3] (SC bo) im P) (k : ∀ x2 im2, P x2 im2 → V mX9_person (d + 1) b 12 [some (.ref 0), some (.int l1), some (.int l2), some (.int l3), none, none] [.int x2] (SC bo) im2 Q) : V mX9_person (d + 1) b 7 [some (.ref 0), some (.int l1), some (.int l2), some (.int l3), none, none] [] (SC bo) im Q := by
  refine V.iload_n dX9_person_7 rfl rfl ?_
  refine V.iload_n dX9_person_8 rfl rfl ?_
  refine V.cSI rfl vX9_isBeatAndPhase lkX9_60 sX9_isBeatAndPhase (As := [.int l2, .int l3]) rfl rfl rfl dX9_person_9 hs (fun x2 im2 h2 => ?_)
  exact k x2 im2 h2
theorem bX9_person_12 {d : Nat} {b : Nat × Nat} {bo : Bool} {im : XI} {Q : Option Value → XS → XI → Prop} {l1 : Int32} {l2 : Int32} {l3 : Int32} {s0 : Int32}  (kt : ¬ s0 = 0 → V mX9_person d b 22 [some (.ref 0), some (.int l1), some (.int l2), some (.int l3), none, none] [] (SC bo) im Q) (kf : s0 = 0 → V mX9_person d b 15 [some (.ref 0), some (.int l1), some (.int l2), some (.int l3), none, none] [] (SC bo) im Q) : V mX9_person d b 12 [some (.ref 0), some (.int l1), some (.int l2), some (.int l3), none, none] [.int s0] (SC bo) im Q := by
  refine V.if_ne (tgt := 22) dX9_person_12 (by decide) (fun h => ?_) (fun h => ?_)
  · exact kt h
  · exact kf h
theorem bX9_person_15 {d : Nat} {b : Nat × Nat} {bo : Bool} {im : XI} {Q : Option Value → XS → XI → Prop} {l1 : Int32} {l2 : Int32} {l3 : Int32} {P : Int32 → XI → Prop}  (hs : SpI mX9_fail d [.ref 0, .int (-1000000001 : Int32)] (SC bo) im P) (k : ∀ x2 im2, P x2 im2 → V mX9_person (d + 1) b 21 [some (.ref 0), some (.int l1), some (.int l2), some (.int l3), none, none] [.int x2] (SC bo) im2 Q) : V mX9_person (d + 1) b 15 [some (.ref 0), some (.int l1), some (.int l2), some (.int l3), none, none] [] (SC bo) im Q := by
  refine V.aload_n dX9_person_15 rfl rfl ?_
  refine V.ldc kX9_64 dX9_person_16 ?_
  refine V.cVI rfl vX9_fail lkX9_65 wX9_fail (ci := 9) rfl (by rfl) (As := [.int (-1000000001 : Int32)]) rfl rfl rfl dX9_person_18 hs (fun x2 im2 h2 => ?_)
  exact k x2 im2 h2
theorem bX9_person_21 {d : Nat} {b : Nat × Nat} {bo : Bool} {im : XI} {Q : Option Value → XS → XI → Prop} {l1 : Int32} {l2 : Int32} {l3 : Int32} {s0 : Int32}  (hq : Q (some (.int s0)) (SC bo) im) : V mX9_person d b 21 [some (.ref 0), some (.int l1), some (.int l2), some (.int l3), none, none] [.int s0] (SC bo) im Q := by
  exact V.iret rfl dX9_person_21 hq
theorem bX9_person_22 {d : Nat} {b : Nat × Nat} {bo : Bool} {im : XI} {Q : Option Value → XS → XI → Prop} {l1 : Int32} {l2 : Int32} {l3 : Int32}  (kt : (im 1 6) < (6 : Int32) → V mX9_person d b 41 [some (.ref 0), some (.int l1), some (.int l2), some (.int l3), none, none] [] (SC bo) im Q) (kf : ¬ (im 1 6) < (6 : Int32) → V mX9_person d b 34 [some (.ref 0), some (.int l1), some (.int l2), some (.int l3), none, none] [] (SC bo) im Q) : V mX9_person d b 22 [some (.ref 0), some (.int l1), some (.int l2), some (.int l3), none, none] [] (SC bo) im Q := by
  refine V.aload_n dX9_person_22 rfl rfl ?_
  refine V.getR fX9_12 rfl (by rfl) (by rfl) dX9_person_23 ?_
  refine V.getI fX9_69 rfl (by rfl) dX9_person_26 ?_
  refine V.bipush (v := 6) dX9_person_29 (by decide) ?_
  refine V.icmp_lt (tgt := 41) dX9_person_31 (by decide) (fun h => ?_) (fun h => ?_)
  · exact kt h
  · exact kf h
theorem bX9_person_34 {d : Nat} {b : Nat × Nat} {bo : Bool} {im : XI} {Q : Option Value → XS → XI → Prop} {l1 : Int32} {l2 : Int32} {l3 : Int32} {P : Int32 → XI → Prop}  (hs : SpI mX9_fail d [.ref 0, .int (-1000000004 : Int32)] (SC bo) im P) (k : ∀ x2 im2, P x2 im2 → V mX9_person (d + 1) b 40 [some (.ref 0), some (.int l1), some (.int l2), some (.int l3), none, none] [.int x2] (SC bo) im2 Q) : V mX9_person (d + 1) b 34 [some (.ref 0), some (.int l1), some (.int l2), some (.int l3), none, none] [] (SC bo) im Q := by
  refine V.aload_n dX9_person_34 rfl rfl ?_
  refine V.ldc kX9_73 dX9_person_35 ?_
  refine V.cVI rfl vX9_fail lkX9_65 wX9_fail (ci := 9) rfl (by rfl) (As := [.int (-1000000004 : Int32)]) rfl rfl rfl dX9_person_37 hs (fun x2 im2 h2 => ?_)
  exact k x2 im2 h2
theorem bX9_person_40 {d : Nat} {b : Nat × Nat} {bo : Bool} {im : XI} {Q : Option Value → XS → XI → Prop} {l1 : Int32} {l2 : Int32} {l3 : Int32} {s0 : Int32}  (hq : Q (some (.int s0)) (SC bo) im) : V mX9_person d b 40 [some (.ref 0), some (.int l1), some (.int l2), some (.int l3), none, none] [.int s0] (SC bo) im Q := by
  exact V.iret rfl dX9_person_40 hq
theorem bX9_person_41 {d : Nat} {b : Nat × Nat} {bo : Bool} {im : XI} {Q : Option Value → XS → XI → Prop} {l1 : Int32} {l2 : Int32} {l3 : Int32} {i1 : Nat} {P : XI → Prop} (g0 : (im 1 6) = nI i1) (g1 : i1 < 6) (hs : SpV mX4_turnInto d [.ref (16 + i1), .int l1] (SC bo) im P) (k : ∀ im2, P im2 → V mX9_person (d + 1) b 68 [some (.ref 0), some (.int l1), some (.int l2), some (.int l3), some (.int (im 1 6)), some (.ref (16 + i1))] [] (SC bo) im2 Q) : V mX9_person (d + 1) b 41 [some (.ref 0), some (.int l1), some (.int l2), some (.int l3), none, none] [] (SC bo) im Q := by
  refine V.aload_n dX9_person_41 rfl rfl ?_
  refine V.getR fX9_12 rfl (by rfl) (by rfl) dX9_person_42 ?_
  refine V.getI fX9_69 rfl (by rfl) dX9_person_45 ?_
  refine V.istore dX9_person_48 rfl rfl ?_
  refine V.aload_n dX9_person_50 rfl rfl ?_
  refine V.getR fX9_12 rfl (by rfl) (by rfl) dX9_person_51 ?_
  refine V.getR fX9_74 rfl (by rfl) (by rfl) dX9_person_54 ?_
  refine V.iload dX9_person_57 rfl ?_
  refine V.aald (i := i1) ⟨by rfl, by rfl, by rfl⟩ g0 g1 (xpeople g1) dX9_person_59 ?_
  refine V.astore dX9_person_60 rfl rfl ?_
  refine V.aload dX9_person_62 rfl ?_
  refine V.iload_n dX9_person_64 rfl rfl ?_
  refine V.cVV rfl vX4_turnInto lkX9_78 wX4_turnInto (ci := 4) rfl (xperson g1) (As := [.int l1]) rfl rfl rfl dX9_person_65 hs (fun im2 h2 => ?_)
  exact k im2 h2
theorem bX9_person_68 {d : Nat} {b : Nat × Nat} {bo : Bool} {im : XI} {Q : Option Value → XS → XI → Prop} {l1 : Int32} {l2 : Int32} {l3 : Int32} {l4 : Int32} {l5 : Nat} (g0 : (SC bo).1[l5]? = some (.inl 4)) (hq : Q (some (.int l4)) (SC bo) (xup (xup (xup im l5 2 l2) l5 3 l3) 1 6 (((xup (xup im l5 2 l2) l5 3 l3) 1 6) + (1 : Int32)))) : V mX9_person d b 68 [some (.ref 0), some (.int l1), some (.int l2), some (.int l3), some (.int l4), some (.ref l5)] [] (SC bo) im Q := by
  refine V.aload dX9_person_68 rfl ?_
  refine V.iload_n dX9_person_70 rfl rfl ?_
  refine V.putI fX9_84 (fun h => by cases h) rfl g0 dX9_person_71 ?_
  refine V.aload dX9_person_74 rfl ?_
  refine V.iload_n dX9_person_76 rfl rfl ?_
  refine V.putI fX9_87 (fun h => by cases h) rfl g0 dX9_person_77 ?_
  refine V.aload_n dX9_person_80 rfl rfl ?_
  refine V.getR fX9_12 rfl (by rfl) (by rfl) dX9_person_81 ?_
  refine V.dup dX9_person_84 rfl ?_
  refine V.getI fX9_69 rfl (by rfl) dX9_person_85 ?_
  refine V.iconst (v := 1) dX9_person_88 (by decide) ?_
  refine V.iadd dX9_person_89 ?_
  refine V.putI fX9_69 (fun h => by cases h) rfl (by rfl) dX9_person_90 ?_
  refine V.iload dX9_person_93 rfl ?_
  exact V.iret rfl dX9_person_95 hq
theorem bX9_personIs_0 {d : Nat} {b : Nat × Nat} {bo : Bool} {im : XI} {Q : Option Value → XS → XI → Prop} {l1 : Int32} {l2 : Int32} {P : Int32 → XI → Prop}  (hs : SpI mX2_hasPerson d [.ref 1, .int l1] (SC bo) im P) (k : ∀ x2 im2, P x2 im2 → V mX9_personIs (d + 1) b 8 [some (.ref 0), some (.int l1), some (.int l2), none] [.int x2] (SC bo) im2 Q) : V mX9_personIs (d + 1) b 0 [some (.ref 0), some (.int l1), some (.int l2), none] [] (SC bo) im Q := by
  refine V.aload_n dX9_personIs_0 rfl rfl ?_
  refine V.getR fX9_12 rfl (by rfl) (by rfl) dX9_personIs_1 ?_
  refine V.iload_n dX9_personIs_4 rfl rfl ?_
  refine V.cVI rfl vX2_hasPerson lkX9_90 wX2_hasPerson (ci := 2) rfl (by rfl) (As := [.int l1]) rfl rfl rfl dX9_personIs_5 hs (fun x2 im2 h2 => ?_)
  exact k x2 im2 h2
theorem bX9_personIs_8 {d : Nat} {b : Nat × Nat} {bo : Bool} {im : XI} {Q : Option Value → XS → XI → Prop} {l1 : Int32} {l2 : Int32} {s0 : Int32}  (kt : s0 = 0 → V mX9_personIs d b 20 [some (.ref 0), some (.int l1), some (.int l2), none] [] (SC bo) im Q) (kf : ¬ s0 = 0 → V mX9_personIs d b 11 [some (.ref 0), some (.int l1), some (.int l2), none] [] (SC bo) im Q) : V mX9_personIs d b 8 [some (.ref 0), some (.int l1), some (.int l2), none] [.int s0] (SC bo) im Q := by
  refine V.if_eq (tgt := 20) dX9_personIs_8 (by decide) (fun h => ?_) (fun h => ?_)
  · exact kt h
  · exact kf h
theorem bX9_personIs_11 {d : Nat} {b : Nat × Nat} {bo : Bool} {im : XI} {Q : Option Value → XS → XI → Prop} {l1 : Int32} {l2 : Int32} {P : Int32 → XI → Prop}  (hs : SpI mX9_within d [.int l2, .int (0 : Int32), .int (4 : Int32)] (SC bo) im P) (k : ∀ x2 im2, P x2 im2 → V mX9_personIs (d + 1) b 17 [some (.ref 0), some (.int l1), some (.int l2), none] [.int x2] (SC bo) im2 Q) : V mX9_personIs (d + 1) b 11 [some (.ref 0), some (.int l1), some (.int l2), none] [] (SC bo) im Q := by
  refine V.iload_n dX9_personIs_11 rfl rfl ?_
  refine V.iconst (v := 0) dX9_personIs_12 (by decide) ?_
  refine V.iconst (v := 4) dX9_personIs_13 (by decide) ?_
  refine V.cSI rfl vX9_within lkX9_93 sX9_within (As := [.int l2, .int (0 : Int32), .int (4 : Int32)]) rfl rfl rfl dX9_personIs_14 hs (fun x2 im2 h2 => ?_)
  exact k x2 im2 h2
theorem bX9_personIs_17 {d : Nat} {b : Nat × Nat} {bo : Bool} {im : XI} {Q : Option Value → XS → XI → Prop} {l1 : Int32} {l2 : Int32} {s0 : Int32}  (kt : ¬ s0 = 0 → V mX9_personIs d b 27 [some (.ref 0), some (.int l1), some (.int l2), none] [] (SC bo) im Q) (kf : s0 = 0 → V mX9_personIs d b 20 [some (.ref 0), some (.int l1), some (.int l2), none] [] (SC bo) im Q) : V mX9_personIs d b 17 [some (.ref 0), some (.int l1), some (.int l2), none] [.int s0] (SC bo) im Q := by
  refine V.if_ne (tgt := 27) dX9_personIs_17 (by decide) (fun h => ?_) (fun h => ?_)
  · exact kt h
  · exact kf h
theorem bX9_personIs_20 {d : Nat} {b : Nat × Nat} {bo : Bool} {im : XI} {Q : Option Value → XS → XI → Prop} {l1 : Int32} {l2 : Int32} {P : Int32 → XI → Prop}  (hs : SpI mX9_fail d [.ref 0, .int (-1000000001 : Int32)] (SC bo) im P) (k : ∀ x2 im2, P x2 im2 → V mX9_personIs (d + 1) b 26 [some (.ref 0), some (.int l1), some (.int l2), none] [.int x2] (SC bo) im2 Q) : V mX9_personIs (d + 1) b 20 [some (.ref 0), some (.int l1), some (.int l2), none] [] (SC bo) im Q := by
  refine V.aload_n dX9_personIs_20 rfl rfl ?_
  refine V.ldc kX9_64 dX9_personIs_21 ?_
  refine V.cVI rfl vX9_fail lkX9_65 wX9_fail (ci := 9) rfl (by rfl) (As := [.int (-1000000001 : Int32)]) rfl rfl rfl dX9_personIs_23 hs (fun x2 im2 h2 => ?_)
  exact k x2 im2 h2
theorem bX9_personIs_26 {d : Nat} {b : Nat × Nat} {bo : Bool} {im : XI} {Q : Option Value → XS → XI → Prop} {l1 : Int32} {l2 : Int32} {s0 : Int32}  (hq : Q (some (.int s0)) (SC bo) im) : V mX9_personIs d b 26 [some (.ref 0), some (.int l1), some (.int l2), none] [.int s0] (SC bo) im Q := by
  exact V.iret rfl dX9_personIs_26 hq
theorem bX9_personIs_27 {d : Nat} {b : Nat × Nat} {bo : Bool} {im : XI} {Q : Option Value → XS → XI → Prop} {l1 : Int32} {l2 : Int32} {i1 : Nat} (g0 : l1 = nI i1) (g1 : i1 < 6) (k0 : l2 = 0 → V mX9_personIs d b 68 [some (.ref 0), some (.int l1), some (.int l2), some (.ref (16 + i1))] [] (SC bo) im Q) (k1 : l2 = 1 → V mX9_personIs d b 73 [some (.ref 0), some (.int l1), some (.int l2), some (.ref (16 + i1))] [] (SC bo) im Q) (k2 : l2 = 2 → V mX9_personIs d b 78 [some (.ref 0), some (.int l1), some (.int l2), some (.ref (16 + i1))] [] (SC bo) im Q) (k3 : l2 = 3 → V mX9_personIs d b 83 [some (.ref 0), some (.int l1), some (.int l2), some (.ref (16 + i1))] [] (SC bo) im Q) (kd : ¬ l2 = 0 → ¬ l2 = 1 → ¬ l2 = 2 → ¬ l2 = 3 → V mX9_personIs d b 88 [some (.ref 0), some (.int l1), some (.int l2), some (.ref (16 + i1))] [] (SC bo) im Q) : V mX9_personIs d b 27 [some (.ref 0), some (.int l1), some (.int l2), none] [] (SC bo) im Q := by
  refine V.aload_n dX9_personIs_27 rfl rfl ?_
  refine V.getR fX9_12 rfl (by rfl) (by rfl) dX9_personIs_28 ?_
  refine V.getR fX9_74 rfl (by rfl) (by rfl) dX9_personIs_31 ?_
  refine V.iload_n dX9_personIs_34 rfl rfl ?_
  refine V.aald (i := i1) ⟨by rfl, by rfl, by rfl⟩ g0 g1 (xpeople g1) dX9_personIs_35 ?_
  refine V.astore_n dX9_personIs_36 rfl rfl rfl ?_
  refine V.iload_n dX9_personIs_37 rfl rfl ?_
  by_cases c0 : l2 = 0
  · exact V.tableIn (tgt := 68) (off := 30) dX9_personIs_38 (by rw [c0]; decide) (by rw [c0]; decide) (by rw [c0] <;> rfl) (by decide) (k0 c0)
  · skip
    by_cases c1 : l2 = 1
    · exact V.tableIn (tgt := 73) (off := 35) dX9_personIs_38 (by rw [c1]; decide) (by rw [c1]; decide) (by rw [c1] <;> rfl) (by decide) (k1 c1)
    · skip
      by_cases c2 : l2 = 2
      · exact V.tableIn (tgt := 78) (off := 40) dX9_personIs_38 (by rw [c2]; decide) (by rw [c2]; decide) (by rw [c2] <;> rfl) (by decide) (k2 c2)
      · skip
        by_cases c3 : l2 = 3
        · exact V.tableIn (tgt := 83) (off := 45) dX9_personIs_38 (by rw [c3]; decide) (by rw [c3]; decide) (by rw [c3] <;> rfl) (by decide) (k3 c3)
        · skip
          exact V.tableOut (tgt := 88) dX9_personIs_38 (by have qc0 := lv_neT c0 (a := 0) rfl; have qc1 := lv_neT c1 (a := 1) rfl; have qc2 := lv_neT c2 (a := 2) rfl; have qc3 := lv_neT c3 (a := 3) rfl; omega) (by decide) (kd c0 c1 c2 c3)
theorem bX9_personIs_68 {d : Nat} {b : Nat × Nat} {bo : Bool} {im : XI} {Q : Option Value → XS → XI → Prop} {l1 : Int32} {l2 : Int32} {l3 : Nat} (g0 : (SC bo).1[l3]? = some (.inl 4)) (hq : Q (some (.int (im l3 0))) (SC bo) im) : V mX9_personIs d b 68 [some (.ref 0), some (.int l1), some (.int l2), some (.ref l3)] [] (SC bo) im Q := by
  refine V.aload_n dX9_personIs_68 rfl rfl ?_
  refine V.getI fX9_97 rfl g0 dX9_personIs_69 ?_
  exact V.iret rfl dX9_personIs_72 hq
theorem bX9_personIs_73 {d : Nat} {b : Nat × Nat} {bo : Bool} {im : XI} {Q : Option Value → XS → XI → Prop} {l1 : Int32} {l2 : Int32} {l3 : Nat} (g0 : (SC bo).1[l3]? = some (.inl 4)) (hq : Q (some (.int (im l3 1))) (SC bo) im) : V mX9_personIs d b 73 [some (.ref 0), some (.int l1), some (.int l2), some (.ref l3)] [] (SC bo) im Q := by
  refine V.aload_n dX9_personIs_73 rfl rfl ?_
  refine V.getI fX9_100 rfl g0 dX9_personIs_74 ?_
  exact V.iret rfl dX9_personIs_77 hq
theorem bX9_personIs_78 {d : Nat} {b : Nat × Nat} {bo : Bool} {im : XI} {Q : Option Value → XS → XI → Prop} {l1 : Int32} {l2 : Int32} {l3 : Nat} (g0 : (SC bo).1[l3]? = some (.inl 4)) (hq : Q (some (.int (im l3 2))) (SC bo) im) : V mX9_personIs d b 78 [some (.ref 0), some (.int l1), some (.int l2), some (.ref l3)] [] (SC bo) im Q := by
  refine V.aload_n dX9_personIs_78 rfl rfl ?_
  refine V.getI fX9_84 rfl g0 dX9_personIs_79 ?_
  exact V.iret rfl dX9_personIs_82 hq
theorem bX9_personIs_83 {d : Nat} {b : Nat × Nat} {bo : Bool} {im : XI} {Q : Option Value → XS → XI → Prop} {l1 : Int32} {l2 : Int32} {l3 : Nat} (g0 : (SC bo).1[l3]? = some (.inl 4)) (hq : Q (some (.int (im l3 3))) (SC bo) im) : V mX9_personIs d b 83 [some (.ref 0), some (.int l1), some (.int l2), some (.ref l3)] [] (SC bo) im Q := by
  refine V.aload_n dX9_personIs_83 rfl rfl ?_
  refine V.getI fX9_87 rfl g0 dX9_personIs_84 ?_
  exact V.iret rfl dX9_personIs_87 hq
theorem bX9_personIs_88 {d : Nat} {b : Nat × Nat} {bo : Bool} {im : XI} {Q : Option Value → XS → XI → Prop} {l1 : Int32} {l2 : Int32} {l3 : Nat} {P : Int32 → XI → Prop}  (hs : SpI mX2_isShut d [.ref 1, .int l1, .int (im 1 8)] (SC bo) im P) (k : ∀ x2 im2, P x2 im2 → V mX9_personIs (d + 1) b 103 [some (.ref 0), some (.int l1), some (.int l2), some (.ref l3)] [.int x2] (SC bo) im2 Q) : V mX9_personIs (d + 1) b 88 [some (.ref 0), some (.int l1), some (.int l2), some (.ref l3)] [] (SC bo) im Q := by
  refine V.aload_n dX9_personIs_88 rfl rfl ?_
  refine V.getR fX9_12 rfl (by rfl) (by rfl) dX9_personIs_89 ?_
  refine V.iload_n dX9_personIs_92 rfl rfl ?_
  refine V.aload_n dX9_personIs_93 rfl rfl ?_
  refine V.getR fX9_12 rfl (by rfl) (by rfl) dX9_personIs_94 ?_
  refine V.getI fX9_103 rfl (by rfl) dX9_personIs_97 ?_
  refine V.cVI rfl vX2_isShut lkX9_106 wX2_isShut (ci := 2) rfl (by rfl) (As := [.int l1, .int (im 1 8)]) rfl rfl rfl dX9_personIs_100 hs (fun x2 im2 h2 => ?_)
  exact k x2 im2 h2
theorem bX9_personIs_103 {d : Nat} {b : Nat × Nat} {bo : Bool} {im : XI} {Q : Option Value → XS → XI → Prop} {l1 : Int32} {l2 : Int32} {l3 : Nat} {s0 : Int32}  (kt : s0 = 0 → V mX9_personIs d b 110 [some (.ref 0), some (.int l1), some (.int l2), some (.ref l3)] [] (SC bo) im Q) (kf : ¬ s0 = 0 → V mX9_personIs d b 106 [some (.ref 0), some (.int l1), some (.int l2), some (.ref l3)] [] (SC bo) im Q) : V mX9_personIs d b 103 [some (.ref 0), some (.int l1), some (.int l2), some (.ref l3)] [.int s0] (SC bo) im Q := by
  refine V.if_eq (tgt := 110) dX9_personIs_103 (by decide) (fun h => ?_) (fun h => ?_)
  · exact kt h
  · exact kf h
theorem bX9_personIs_106 {d : Nat} {b : Nat × Nat} {bo : Bool} {im : XI} {Q : Option Value → XS → XI → Prop} {l1 : Int32} {l2 : Int32} {l3 : Nat}  (k : V mX9_personIs d b 111 [some (.ref 0), some (.int l1), some (.int l2), some (.ref l3)] [.int (1 : Int32)] (SC bo) im Q) : V mX9_personIs d b 106 [some (.ref 0), some (.int l1), some (.int l2), some (.ref l3)] [] (SC bo) im Q := by
  refine V.iconst (v := 1) dX9_personIs_106 (by decide) ?_
  refine V.goto (tgt := 111) dX9_personIs_107 (by decide) ?_
  exact k
theorem bX9_personIs_110 {d : Nat} {b : Nat × Nat} {bo : Bool} {im : XI} {Q : Option Value → XS → XI → Prop} {l1 : Int32} {l2 : Int32} {l3 : Nat}  (k : V mX9_personIs d b 111 [some (.ref 0), some (.int l1), some (.int l2), some (.ref l3)] [.int (0 : Int32)] (SC bo) im Q) : V mX9_personIs d b 110 [some (.ref 0), some (.int l1), some (.int l2), some (.ref l3)] [] (SC bo) im Q := by
  refine V.iconst (v := 0) dX9_personIs_110 (by decide) ?_
  exact k
theorem bX9_personIs_111 {d : Nat} {b : Nat × Nat} {bo : Bool} {im : XI} {Q : Option Value → XS → XI → Prop} {l1 : Int32} {l2 : Int32} {l3 : Nat} {s0 : Int32}  (hq : Q (some (.int s0)) (SC bo) im) : V mX9_personIs d b 111 [some (.ref 0), some (.int l1), some (.int l2), some (.ref l3)] [.int s0] (SC bo) im Q := by
  exact V.iret rfl dX9_personIs_111 hq
theorem bX9_become_0 {d : Nat} {b : Nat × Nat} {bo : Bool} {im : XI} {Q : Option Value → XS → XI → Prop} {l1 : Int32} {l2 : Int32} {P : Int32 → XI → Prop}  (hs : SpI mX2_hasPerson d [.ref 1, .int l1] (SC bo) im P) (k : ∀ x2 im2, P x2 im2 → V mX9_become (d + 1) b 8 [some (.ref 0), some (.int l1), some (.int l2), none, none] [.int x2] (SC bo) im2 Q) : V mX9_become (d + 1) b 0 [some (.ref 0), some (.int l1), some (.int l2), none, none] [] (SC bo) im Q := by
  refine V.aload_n dX9_become_0 rfl rfl ?_
  refine V.getR fX9_12 rfl (by rfl) (by rfl) dX9_become_1 ?_
  refine V.iload_n dX9_become_4 rfl rfl ?_
  refine V.cVI rfl vX2_hasPerson lkX9_90 wX2_hasPerson (ci := 2) rfl (by rfl) (As := [.int l1]) rfl rfl rfl dX9_become_5 hs (fun x2 im2 h2 => ?_)
  exact k x2 im2 h2
theorem bX9_become_8 {d : Nat} {b : Nat × Nat} {bo : Bool} {im : XI} {Q : Option Value → XS → XI → Prop} {l1 : Int32} {l2 : Int32} {s0 : Int32}  (kt : s0 = 0 → V mX9_become d b 18 [some (.ref 0), some (.int l1), some (.int l2), none, none] [] (SC bo) im Q) (kf : ¬ s0 = 0 → V mX9_become d b 11 [some (.ref 0), some (.int l1), some (.int l2), none, none] [] (SC bo) im Q) : V mX9_become d b 8 [some (.ref 0), some (.int l1), some (.int l2), none, none] [.int s0] (SC bo) im Q := by
  refine V.if_eq (tgt := 18) dX9_become_8 (by decide) (fun h => ?_) (fun h => ?_)
  · exact kt h
  · exact kf h
theorem bX9_become_11 {d : Nat} {b : Nat × Nat} {bo : Bool} {im : XI} {Q : Option Value → XS → XI → Prop} {l1 : Int32} {l2 : Int32} {P : Int32 → XI → Prop}  (hs : SpI mX9_isKindAndNumber d [.int l2] (SC bo) im P) (k : ∀ x2 im2, P x2 im2 → V mX9_become (d + 1) b 15 [some (.ref 0), some (.int l1), some (.int l2), none, none] [.int x2] (SC bo) im2 Q) : V mX9_become (d + 1) b 11 [some (.ref 0), some (.int l1), some (.int l2), none, none] [] (SC bo) im Q := by
  refine V.iload_n dX9_become_11 rfl rfl ?_
  refine V.cSI rfl vX9_isKindAndNumber lkX9_56 sX9_isKindAndNumber (As := [.int l2]) rfl rfl rfl dX9_become_12 hs (fun x2 im2 h2 => ?_)
  exact k x2 im2 h2
theorem bX9_become_15 {d : Nat} {b : Nat × Nat} {bo : Bool} {im : XI} {Q : Option Value → XS → XI → Prop} {l1 : Int32} {l2 : Int32} {s0 : Int32}  (kt : ¬ s0 = 0 → V mX9_become d b 25 [some (.ref 0), some (.int l1), some (.int l2), none, none] [] (SC bo) im Q) (kf : s0 = 0 → V mX9_become d b 18 [some (.ref 0), some (.int l1), some (.int l2), none, none] [] (SC bo) im Q) : V mX9_become d b 15 [some (.ref 0), some (.int l1), some (.int l2), none, none] [.int s0] (SC bo) im Q := by
  refine V.if_ne (tgt := 25) dX9_become_15 (by decide) (fun h => ?_) (fun h => ?_)
  · exact kt h
  · exact kf h
theorem bX9_become_18 {d : Nat} {b : Nat × Nat} {bo : Bool} {im : XI} {Q : Option Value → XS → XI → Prop} {l1 : Int32} {l2 : Int32} {P : Int32 → XI → Prop}  (hs : SpI mX9_fail d [.ref 0, .int (-1000000001 : Int32)] (SC bo) im P) (k : ∀ x2 im2, P x2 im2 → V mX9_become (d + 1) b 24 [some (.ref 0), some (.int l1), some (.int l2), none, none] [.int x2] (SC bo) im2 Q) : V mX9_become (d + 1) b 18 [some (.ref 0), some (.int l1), some (.int l2), none, none] [] (SC bo) im Q := by
  refine V.aload_n dX9_become_18 rfl rfl ?_
  refine V.ldc kX9_64 dX9_become_19 ?_
  refine V.cVI rfl vX9_fail lkX9_65 wX9_fail (ci := 9) rfl (by rfl) (As := [.int (-1000000001 : Int32)]) rfl rfl rfl dX9_become_21 hs (fun x2 im2 h2 => ?_)
  exact k x2 im2 h2
theorem bX9_become_24 {d : Nat} {b : Nat × Nat} {bo : Bool} {im : XI} {Q : Option Value → XS → XI → Prop} {l1 : Int32} {l2 : Int32} {s0 : Int32}  (hq : Q (some (.int s0)) (SC bo) im) : V mX9_become d b 24 [some (.ref 0), some (.int l1), some (.int l2), none, none] [.int s0] (SC bo) im Q := by
  exact V.iret rfl dX9_become_24 hq
theorem bX9_become_25 {d : Nat} {b : Nat × Nat} {bo : Bool} {im : XI} {Q : Option Value → XS → XI → Prop} {l1 : Int32} {l2 : Int32} {i1 : Nat} {P : XI → Prop} (g0 : l1 = nI i1) (g1 : i1 < 6) (hs : SpV mX4_turnInto d [.ref (16 + i1), .int l2] (SC bo) im P) (k : ∀ im2, P im2 → V mX9_become (d + 1) b 46 [some (.ref 0), some (.int l1), some (.int l2), some (.ref (16 + i1)), some (.int (im (16 + i1) 0))] [] (SC bo) im2 Q) : V mX9_become (d + 1) b 25 [some (.ref 0), some (.int l1), some (.int l2), none, none] [] (SC bo) im Q := by
  refine V.aload_n dX9_become_25 rfl rfl ?_
  refine V.getR fX9_12 rfl (by rfl) (by rfl) dX9_become_26 ?_
  refine V.getR fX9_74 rfl (by rfl) (by rfl) dX9_become_29 ?_
  refine V.iload_n dX9_become_32 rfl rfl ?_
  refine V.aald (i := i1) ⟨by rfl, by rfl, by rfl⟩ g0 g1 (xpeople g1) dX9_become_33 ?_
  refine V.astore_n dX9_become_34 rfl rfl rfl ?_
  refine V.aload_n dX9_become_35 rfl rfl ?_
  refine V.getI fX9_97 rfl (xperson g1) dX9_become_36 ?_
  refine V.istore dX9_become_39 rfl rfl ?_
  refine V.aload_n dX9_become_41 rfl rfl ?_
  refine V.iload_n dX9_become_42 rfl rfl ?_
  refine V.cVV rfl vX4_turnInto lkX9_78 wX4_turnInto (ci := 4) rfl (xperson g1) (As := [.int l2]) rfl rfl rfl dX9_become_43 hs (fun im2 h2 => ?_)
  exact k im2 h2
theorem bX9_become_46 {d : Nat} {b : Nat × Nat} {bo : Bool} {im : XI} {Q : Option Value → XS → XI → Prop} {l1 : Int32} {l2 : Int32} {l3 : Nat} {l4 : Int32}  (hq : Q (some (.int l4)) (SC bo) im) : V mX9_become d b 46 [some (.ref 0), some (.int l1), some (.int l2), some (.ref l3), some (.int l4)] [] (SC bo) im Q := by
  refine V.iload dX9_become_46 rfl ?_
  exact V.iret rfl dX9_become_48 hq
theorem bX9_as_0 {d : Nat} {b : Nat × Nat} {bo : Bool} {im : XI} {Q : Option Value → XS → XI → Prop} {l1 : Int32} {l2 : Int32} {P : Int32 → XI → Prop}  (hs : SpI mX2_hasPerson d [.ref 1, .int l1] (SC bo) im P) (k : ∀ x2 im2, P x2 im2 → V mX9_as (d + 1) b 8 [some (.ref 0), some (.int l1), some (.int l2), none] [.int x2] (SC bo) im2 Q) : V mX9_as (d + 1) b 0 [some (.ref 0), some (.int l1), some (.int l2), none] [] (SC bo) im Q := by
  refine V.aload_n dX9_as_0 rfl rfl ?_
  refine V.getR fX9_12 rfl (by rfl) (by rfl) dX9_as_1 ?_
  refine V.iload_n dX9_as_4 rfl rfl ?_
  refine V.cVI rfl vX2_hasPerson lkX9_90 wX2_hasPerson (ci := 2) rfl (by rfl) (As := [.int l1]) rfl rfl rfl dX9_as_5 hs (fun x2 im2 h2 => ?_)
  exact k x2 im2 h2
theorem bX9_as_8 {d : Nat} {b : Nat × Nat} {bo : Bool} {im : XI} {Q : Option Value → XS → XI → Prop} {l1 : Int32} {l2 : Int32} {s0 : Int32}  (kt : s0 = 0 → V mX9_as d b 21 [some (.ref 0), some (.int l1), some (.int l2), none] [] (SC bo) im Q) (kf : ¬ s0 = 0 → V mX9_as d b 11 [some (.ref 0), some (.int l1), some (.int l2), none] [] (SC bo) im Q) : V mX9_as d b 8 [some (.ref 0), some (.int l1), some (.int l2), none] [.int s0] (SC bo) im Q := by
  refine V.if_eq (tgt := 21) dX9_as_8 (by decide) (fun h => ?_) (fun h => ?_)
  · exact kt h
  · exact kf h
theorem bX9_as_11 {d : Nat} {b : Nat × Nat} {bo : Bool} {im : XI} {Q : Option Value → XS → XI → Prop} {l1 : Int32} {l2 : Int32} {P : Int32 → XI → Prop}  (hs : SpI mX9_within d [.int l2, .int (0 : Int32), .int (6 : Int32)] (SC bo) im P) (k : ∀ x2 im2, P x2 im2 → V mX9_as (d + 1) b 18 [some (.ref 0), some (.int l1), some (.int l2), none] [.int x2] (SC bo) im2 Q) : V mX9_as (d + 1) b 11 [some (.ref 0), some (.int l1), some (.int l2), none] [] (SC bo) im Q := by
  refine V.iload_n dX9_as_11 rfl rfl ?_
  refine V.iconst (v := 0) dX9_as_12 (by decide) ?_
  refine V.bipush (v := 6) dX9_as_13 (by decide) ?_
  refine V.cSI rfl vX9_within lkX9_93 sX9_within (As := [.int l2, .int (0 : Int32), .int (6 : Int32)]) rfl rfl rfl dX9_as_15 hs (fun x2 im2 h2 => ?_)
  exact k x2 im2 h2
theorem bX9_as_18 {d : Nat} {b : Nat × Nat} {bo : Bool} {im : XI} {Q : Option Value → XS → XI → Prop} {l1 : Int32} {l2 : Int32} {s0 : Int32}  (kt : ¬ s0 = 0 → V mX9_as d b 28 [some (.ref 0), some (.int l1), some (.int l2), none] [] (SC bo) im Q) (kf : s0 = 0 → V mX9_as d b 21 [some (.ref 0), some (.int l1), some (.int l2), none] [] (SC bo) im Q) : V mX9_as d b 18 [some (.ref 0), some (.int l1), some (.int l2), none] [.int s0] (SC bo) im Q := by
  refine V.if_ne (tgt := 28) dX9_as_18 (by decide) (fun h => ?_) (fun h => ?_)
  · exact kt h
  · exact kf h
theorem bX9_as_21 {d : Nat} {b : Nat × Nat} {bo : Bool} {im : XI} {Q : Option Value → XS → XI → Prop} {l1 : Int32} {l2 : Int32} {P : Int32 → XI → Prop}  (hs : SpI mX9_fail d [.ref 0, .int (-1000000001 : Int32)] (SC bo) im P) (k : ∀ x2 im2, P x2 im2 → V mX9_as (d + 1) b 27 [some (.ref 0), some (.int l1), some (.int l2), none] [.int x2] (SC bo) im2 Q) : V mX9_as (d + 1) b 21 [some (.ref 0), some (.int l1), some (.int l2), none] [] (SC bo) im Q := by
  refine V.aload_n dX9_as_21 rfl rfl ?_
  refine V.ldc kX9_64 dX9_as_22 ?_
  refine V.cVI rfl vX9_fail lkX9_65 wX9_fail (ci := 9) rfl (by rfl) (As := [.int (-1000000001 : Int32)]) rfl rfl rfl dX9_as_24 hs (fun x2 im2 h2 => ?_)
  exact k x2 im2 h2
theorem bX9_as_27 {d : Nat} {b : Nat × Nat} {bo : Bool} {im : XI} {Q : Option Value → XS → XI → Prop} {l1 : Int32} {l2 : Int32} {s0 : Int32}  (hq : Q (some (.int s0)) (SC bo) im) : V mX9_as d b 27 [some (.ref 0), some (.int l1), some (.int l2), none] [.int s0] (SC bo) im Q := by
  exact V.iret rfl dX9_as_27 hq
theorem bX9_as_28 {d : Nat} {b : Nat × Nat} {bo : Bool} {im : XI} {Q : Option Value → XS → XI → Prop} {l1 : Int32} {l2 : Int32} {i1 : Nat} {P : Int32 → XI → Prop} (g0 : l1 = nI i1) (g1 : i1 < 6) (hs : SpI mX9_isUnder d [.int (im (16 + i1) 0), .int l2] (SC bo) im P) (k : ∀ x2 im2, P x2 im2 → V mX9_as (d + 1) b 46 [some (.ref 0), some (.int l1), some (.int l2), some (.ref (16 + i1))] [.int x2] (SC bo) im2 Q) : V mX9_as (d + 1) b 28 [some (.ref 0), some (.int l1), some (.int l2), none] [] (SC bo) im Q := by
  refine V.aload_n dX9_as_28 rfl rfl ?_
  refine V.getR fX9_12 rfl (by rfl) (by rfl) dX9_as_29 ?_
  refine V.getR fX9_74 rfl (by rfl) (by rfl) dX9_as_32 ?_
  refine V.iload_n dX9_as_35 rfl rfl ?_
  refine V.aald (i := i1) ⟨by rfl, by rfl, by rfl⟩ g0 g1 (xpeople g1) dX9_as_36 ?_
  refine V.astore_n dX9_as_37 rfl rfl rfl ?_
  refine V.aload_n dX9_as_38 rfl rfl ?_
  refine V.getI fX9_97 rfl (xperson g1) dX9_as_39 ?_
  refine V.iload_n dX9_as_42 rfl rfl ?_
  refine V.cSI rfl vX9_isUnder lkX9_109 sX9_isUnder (As := [.int (im (16 + i1) 0), .int l2]) rfl rfl rfl dX9_as_43 hs (fun x2 im2 h2 => ?_)
  exact k x2 im2 h2
theorem bX9_as_46 {d : Nat} {b : Nat × Nat} {bo : Bool} {im : XI} {Q : Option Value → XS → XI → Prop} {l1 : Int32} {l2 : Int32} {l3 : Nat} {s0 : Int32}  (kt : ¬ s0 = 0 → V mX9_as d b 56 [some (.ref 0), some (.int l1), some (.int l2), some (.ref l3)] [] (SC bo) im Q) (kf : s0 = 0 → V mX9_as d b 49 [some (.ref 0), some (.int l1), some (.int l2), some (.ref l3)] [] (SC bo) im Q) : V mX9_as d b 46 [some (.ref 0), some (.int l1), some (.int l2), some (.ref l3)] [.int s0] (SC bo) im Q := by
  refine V.if_ne (tgt := 56) dX9_as_46 (by decide) (fun h => ?_) (fun h => ?_)
  · exact kt h
  · exact kf h
theorem bX9_as_49 {d : Nat} {b : Nat × Nat} {bo : Bool} {im : XI} {Q : Option Value → XS → XI → Prop} {l1 : Int32} {l2 : Int32} {l3 : Nat} {P : Int32 → XI → Prop}  (hs : SpI mX9_fail d [.ref 0, .int (-1000000005 : Int32)] (SC bo) im P) (k : ∀ x2 im2, P x2 im2 → V mX9_as (d + 1) b 55 [some (.ref 0), some (.int l1), some (.int l2), some (.ref l3)] [.int x2] (SC bo) im2 Q) : V mX9_as (d + 1) b 49 [some (.ref 0), some (.int l1), some (.int l2), some (.ref l3)] [] (SC bo) im Q := by
  refine V.aload_n dX9_as_49 rfl rfl ?_
  refine V.ldc kX9_112 dX9_as_50 ?_
  refine V.cVI rfl vX9_fail lkX9_65 wX9_fail (ci := 9) rfl (by rfl) (As := [.int (-1000000005 : Int32)]) rfl rfl rfl dX9_as_52 hs (fun x2 im2 h2 => ?_)
  exact k x2 im2 h2
theorem bX9_as_55 {d : Nat} {b : Nat × Nat} {bo : Bool} {im : XI} {Q : Option Value → XS → XI → Prop} {l1 : Int32} {l2 : Int32} {l3 : Nat} {s0 : Int32}  (hq : Q (some (.int s0)) (SC bo) im) : V mX9_as d b 55 [some (.ref 0), some (.int l1), some (.int l2), some (.ref l3)] [.int s0] (SC bo) im Q := by
  exact V.iret rfl dX9_as_55 hq
theorem bX9_as_56 {d : Nat} {b : Nat × Nat} {bo : Bool} {im : XI} {Q : Option Value → XS → XI → Prop} {l1 : Int32} {l2 : Int32} {l3 : Nat} (g0 : (SC bo).1[l3]? = some (.inl 4)) (hq : Q (some (.int (im l3 1))) (SC bo) im) : V mX9_as d b 56 [some (.ref 0), some (.int l1), some (.int l2), some (.ref l3)] [] (SC bo) im Q := by
  refine V.aload_n dX9_as_56 rfl rfl ?_
  refine V.getI fX9_100 rfl g0 dX9_as_57 ?_
  exact V.iret rfl dX9_as_60 hq
theorem bX9_beats_0 {d : Nat} {b : Nat × Nat} {bo : Bool} {im : XI} {Q : Option Value → XS → XI → Prop} {l1 : Int32} {l2 : Int32} {l3 : Int32} {P : Int32 → XI → Prop}  (hs : SpI mX2_hasPerson d [.ref 1, .int l1] (SC bo) im P) (k : ∀ x2 im2, P x2 im2 → V mX9_beats (d + 1) b 8 [some (.ref 0), some (.int l1), some (.int l2), some (.int l3), none, none] [.int x2] (SC bo) im2 Q) : V mX9_beats (d + 1) b 0 [some (.ref 0), some (.int l1), some (.int l2), some (.int l3), none, none] [] (SC bo) im Q := by
  refine V.aload_n dX9_beats_0 rfl rfl ?_
  refine V.getR fX9_12 rfl (by rfl) (by rfl) dX9_beats_1 ?_
  refine V.iload_n dX9_beats_4 rfl rfl ?_
  refine V.cVI rfl vX2_hasPerson lkX9_90 wX2_hasPerson (ci := 2) rfl (by rfl) (As := [.int l1]) rfl rfl rfl dX9_beats_5 hs (fun x2 im2 h2 => ?_)
  exact k x2 im2 h2
theorem bX9_beats_8 {d : Nat} {b : Nat × Nat} {bo : Bool} {im : XI} {Q : Option Value → XS → XI → Prop} {l1 : Int32} {l2 : Int32} {l3 : Int32} {s0 : Int32}  (kt : s0 = 0 → V mX9_beats d b 19 [some (.ref 0), some (.int l1), some (.int l2), some (.int l3), none, none] [] (SC bo) im Q) (kf : ¬ s0 = 0 → V mX9_beats d b 11 [some (.ref 0), some (.int l1), some (.int l2), some (.int l3), none, none] [] (SC bo) im Q) : V mX9_beats d b 8 [some (.ref 0), some (.int l1), some (.int l2), some (.int l3), none, none] [.int s0] (SC bo) im Q := by
  refine V.if_eq (tgt := 19) dX9_beats_8 (by decide) (fun h => ?_) (fun h => ?_)
  · exact kt h
  · exact kf h
theorem bX9_beats_11 {d : Nat} {b : Nat × Nat} {bo : Bool} {im : XI} {Q : Option Value → XS → XI → Prop} {l1 : Int32} {l2 : Int32} {l3 : Int32} {P : Int32 → XI → Prop}  (hs : SpI mX9_isBeatAndPhase d [.int l2, .int l3] (SC bo) im P) (k : ∀ x2 im2, P x2 im2 → V mX9_beats (d + 1) b 16 [some (.ref 0), some (.int l1), some (.int l2), some (.int l3), none, none] [.int x2] (SC bo) im2 Q) : V mX9_beats (d + 1) b 11 [some (.ref 0), some (.int l1), some (.int l2), some (.int l3), none, none] [] (SC bo) im Q := by
  refine V.iload_n dX9_beats_11 rfl rfl ?_
  refine V.iload_n dX9_beats_12 rfl rfl ?_
  refine V.cSI rfl vX9_isBeatAndPhase lkX9_60 sX9_isBeatAndPhase (As := [.int l2, .int l3]) rfl rfl rfl dX9_beats_13 hs (fun x2 im2 h2 => ?_)
  exact k x2 im2 h2
theorem bX9_beats_16 {d : Nat} {b : Nat × Nat} {bo : Bool} {im : XI} {Q : Option Value → XS → XI → Prop} {l1 : Int32} {l2 : Int32} {l3 : Int32} {s0 : Int32}  (kt : ¬ s0 = 0 → V mX9_beats d b 26 [some (.ref 0), some (.int l1), some (.int l2), some (.int l3), none, none] [] (SC bo) im Q) (kf : s0 = 0 → V mX9_beats d b 19 [some (.ref 0), some (.int l1), some (.int l2), some (.int l3), none, none] [] (SC bo) im Q) : V mX9_beats d b 16 [some (.ref 0), some (.int l1), some (.int l2), some (.int l3), none, none] [.int s0] (SC bo) im Q := by
  refine V.if_ne (tgt := 26) dX9_beats_16 (by decide) (fun h => ?_) (fun h => ?_)
  · exact kt h
  · exact kf h
theorem bX9_beats_19 {d : Nat} {b : Nat × Nat} {bo : Bool} {im : XI} {Q : Option Value → XS → XI → Prop} {l1 : Int32} {l2 : Int32} {l3 : Int32} {P : Int32 → XI → Prop}  (hs : SpI mX9_fail d [.ref 0, .int (-1000000001 : Int32)] (SC bo) im P) (k : ∀ x2 im2, P x2 im2 → V mX9_beats (d + 1) b 25 [some (.ref 0), some (.int l1), some (.int l2), some (.int l3), none, none] [.int x2] (SC bo) im2 Q) : V mX9_beats (d + 1) b 19 [some (.ref 0), some (.int l1), some (.int l2), some (.int l3), none, none] [] (SC bo) im Q := by
  refine V.aload_n dX9_beats_19 rfl rfl ?_
  refine V.ldc kX9_64 dX9_beats_20 ?_
  refine V.cVI rfl vX9_fail lkX9_65 wX9_fail (ci := 9) rfl (by rfl) (As := [.int (-1000000001 : Int32)]) rfl rfl rfl dX9_beats_22 hs (fun x2 im2 h2 => ?_)
  exact k x2 im2 h2
theorem bX9_beats_25 {d : Nat} {b : Nat × Nat} {bo : Bool} {im : XI} {Q : Option Value → XS → XI → Prop} {l1 : Int32} {l2 : Int32} {l3 : Int32} {s0 : Int32}  (hq : Q (some (.int s0)) (SC bo) im) : V mX9_beats d b 25 [some (.ref 0), some (.int l1), some (.int l2), some (.int l3), none, none] [.int s0] (SC bo) im Q := by
  exact V.iret rfl dX9_beats_25 hq
theorem bX9_beats_26 {d : Nat} {b : Nat × Nat} {bo : Bool} {im : XI} {Q : Option Value → XS → XI → Prop} {l1 : Int32} {l2 : Int32} {l3 : Int32} {i1 : Nat} (g0 : l1 = nI i1) (g1 : i1 < 6) (hq : Q (some (.int (im (16 + i1) 2))) (SC bo) (xup (xup im (16 + i1) 2 l2) (16 + i1) 3 l3)) : V mX9_beats d b 26 [some (.ref 0), some (.int l1), some (.int l2), some (.int l3), none, none] [] (SC bo) im Q := by
  refine V.aload_n dX9_beats_26 rfl rfl ?_
  refine V.getR fX9_12 rfl (by rfl) (by rfl) dX9_beats_27 ?_
  refine V.getR fX9_74 rfl (by rfl) (by rfl) dX9_beats_30 ?_
  refine V.iload_n dX9_beats_33 rfl rfl ?_
  refine V.aald (i := i1) ⟨by rfl, by rfl, by rfl⟩ g0 g1 (xpeople g1) dX9_beats_34 ?_
  refine V.astore dX9_beats_35 rfl rfl ?_
  refine V.aload dX9_beats_37 rfl ?_
  refine V.getI fX9_84 rfl (xperson g1) dX9_beats_39 ?_
  refine V.istore dX9_beats_42 rfl rfl ?_
  refine V.aload dX9_beats_44 rfl ?_
  refine V.iload_n dX9_beats_46 rfl rfl ?_
  refine V.putI fX9_84 (fun h => by cases h) rfl (xperson g1) dX9_beats_47 ?_
  refine V.aload dX9_beats_50 rfl ?_
  refine V.iload_n dX9_beats_52 rfl rfl ?_
  refine V.putI fX9_87 (fun h => by cases h) rfl (xperson g1) dX9_beats_53 ?_
  refine V.iload dX9_beats_56 rfl ?_
  exact V.iret rfl dX9_beats_58 hq
theorem bX9_doing_0 {d : Nat} {b : Nat × Nat} {bo : Bool} {im : XI} {Q : Option Value → XS → XI → Prop} {l1 : Int32} {l2 : Int32} {l3 : Int32} {P : Int32 → XI → Prop}  (hs : SpI mX2_hasPerson d [.ref 1, .int l1] (SC bo) im P) (k : ∀ x2 im2, P x2 im2 → V mX9_doing (d + 1) b 8 [some (.ref 0), some (.int l1), some (.int l2), some (.int l3), none, none] [.int x2] (SC bo) im2 Q) : V mX9_doing (d + 1) b 0 [some (.ref 0), some (.int l1), some (.int l2), some (.int l3), none, none] [] (SC bo) im Q := by
  refine V.aload_n dX9_doing_0 rfl rfl ?_
  refine V.getR fX9_12 rfl (by rfl) (by rfl) dX9_doing_1 ?_
  refine V.iload_n dX9_doing_4 rfl rfl ?_
  refine V.cVI rfl vX2_hasPerson lkX9_90 wX2_hasPerson (ci := 2) rfl (by rfl) (As := [.int l1]) rfl rfl rfl dX9_doing_5 hs (fun x2 im2 h2 => ?_)
  exact k x2 im2 h2
theorem bX9_doing_8 {d : Nat} {b : Nat × Nat} {bo : Bool} {im : XI} {Q : Option Value → XS → XI → Prop} {l1 : Int32} {l2 : Int32} {l3 : Int32} {s0 : Int32}  (kt : s0 = 0 → V mX9_doing d b 37 [some (.ref 0), some (.int l1), some (.int l2), some (.int l3), none, none] [] (SC bo) im Q) (kf : ¬ s0 = 0 → V mX9_doing d b 11 [some (.ref 0), some (.int l1), some (.int l2), some (.int l3), none, none] [] (SC bo) im Q) : V mX9_doing d b 8 [some (.ref 0), some (.int l1), some (.int l2), some (.int l3), none, none] [.int s0] (SC bo) im Q := by
  refine V.if_eq (tgt := 37) dX9_doing_8 (by decide) (fun h => ?_) (fun h => ?_)
  · exact kt h
  · exact kf h
theorem bX9_doing_11 {d : Nat} {b : Nat × Nat} {bo : Bool} {im : XI} {Q : Option Value → XS → XI → Prop} {l1 : Int32} {l2 : Int32} {l3 : Int32} {P : Int32 → XI → Prop}  (hs : SpI mX9_isParts d [.int l2] (SC bo) im P) (k : ∀ x2 im2, P x2 im2 → V mX9_doing (d + 1) b 15 [some (.ref 0), some (.int l1), some (.int l2), some (.int l3), none, none] [.int x2] (SC bo) im2 Q) : V mX9_doing (d + 1) b 11 [some (.ref 0), some (.int l1), some (.int l2), some (.int l3), none, none] [] (SC bo) im Q := by
  refine V.iload_n dX9_doing_11 rfl rfl ?_
  refine V.cSI rfl vX9_isParts lkX9_113 sX9_isParts (As := [.int l2]) rfl rfl rfl dX9_doing_12 hs (fun x2 im2 h2 => ?_)
  exact k x2 im2 h2
theorem bX9_doing_15 {d : Nat} {b : Nat × Nat} {bo : Bool} {im : XI} {Q : Option Value → XS → XI → Prop} {l1 : Int32} {l2 : Int32} {l3 : Int32} {s0 : Int32}  (kt : s0 = 0 → V mX9_doing d b 37 [some (.ref 0), some (.int l1), some (.int l2), some (.int l3), none, none] [] (SC bo) im Q) (kf : ¬ s0 = 0 → V mX9_doing d b 18 [some (.ref 0), some (.int l1), some (.int l2), some (.int l3), none, none] [] (SC bo) im Q) : V mX9_doing d b 15 [some (.ref 0), some (.int l1), some (.int l2), some (.int l3), none, none] [.int s0] (SC bo) im Q := by
  refine V.if_eq (tgt := 37) dX9_doing_15 (by decide) (fun h => ?_) (fun h => ?_)
  · exact kt h
  · exact kf h
theorem bX9_doing_18 {d : Nat} {b : Nat × Nat} {bo : Bool} {im : XI} {Q : Option Value → XS → XI → Prop} {l1 : Int32} {l2 : Int32} {l3 : Int32} {P : Int32 → XI → Prop}  (hs : SpI mX2_hasSet d [.ref 1, .int l3] (SC bo) im P) (k : ∀ x2 im2, P x2 im2 → V mX9_doing (d + 1) b 26 [some (.ref 0), some (.int l1), some (.int l2), some (.int l3), none, none] [.int x2] (SC bo) im2 Q) : V mX9_doing (d + 1) b 18 [some (.ref 0), some (.int l1), some (.int l2), some (.int l3), none, none] [] (SC bo) im Q := by
  refine V.aload_n dX9_doing_18 rfl rfl ?_
  refine V.getR fX9_12 rfl (by rfl) (by rfl) dX9_doing_19 ?_
  refine V.iload_n dX9_doing_22 rfl rfl ?_
  refine V.cVI rfl vX2_hasSet lkX9_116 wX2_hasSet (ci := 2) rfl (by rfl) (As := [.int l3]) rfl rfl rfl dX9_doing_23 hs (fun x2 im2 h2 => ?_)
  exact k x2 im2 h2
theorem bX9_doing_26 {d : Nat} {b : Nat × Nat} {bo : Bool} {im : XI} {Q : Option Value → XS → XI → Prop} {l1 : Int32} {l2 : Int32} {l3 : Int32} {s0 : Int32}  (kt : s0 = 0 → V mX9_doing d b 37 [some (.ref 0), some (.int l1), some (.int l2), some (.int l3), none, none] [] (SC bo) im Q) (kf : ¬ s0 = 0 → V mX9_doing d b 29 [some (.ref 0), some (.int l1), some (.int l2), some (.int l3), none, none] [] (SC bo) im Q) : V mX9_doing d b 26 [some (.ref 0), some (.int l1), some (.int l2), some (.int l3), none, none] [.int s0] (SC bo) im Q := by
  refine V.if_eq (tgt := 37) dX9_doing_26 (by decide) (fun h => ?_) (fun h => ?_)
  · exact kt h
  · exact kf h
theorem bX9_doing_29 {d : Nat} {b : Nat × Nat} {bo : Bool} {im : XI} {Q : Option Value → XS → XI → Prop} {l1 : Int32} {l2 : Int32} {l3 : Int32} {P : Int32 → XI → Prop}  (hs : SpI mX9_holds d [.int l3, .int l1] (SC bo) im P) (k : ∀ x2 im2, P x2 im2 → V mX9_doing (d + 1) b 34 [some (.ref 0), some (.int l1), some (.int l2), some (.int l3), none, none] [.int x2] (SC bo) im2 Q) : V mX9_doing (d + 1) b 29 [some (.ref 0), some (.int l1), some (.int l2), some (.int l3), none, none] [] (SC bo) im Q := by
  refine V.iload_n dX9_doing_29 rfl rfl ?_
  refine V.iload_n dX9_doing_30 rfl rfl ?_
  refine V.cSI rfl vX9_holds lkX9_119 sX9_holds (As := [.int l3, .int l1]) rfl rfl rfl dX9_doing_31 hs (fun x2 im2 h2 => ?_)
  exact k x2 im2 h2
theorem bX9_doing_34 {d : Nat} {b : Nat × Nat} {bo : Bool} {im : XI} {Q : Option Value → XS → XI → Prop} {l1 : Int32} {l2 : Int32} {l3 : Int32} {s0 : Int32}  (kt : s0 = 0 → V mX9_doing d b 44 [some (.ref 0), some (.int l1), some (.int l2), some (.int l3), none, none] [] (SC bo) im Q) (kf : ¬ s0 = 0 → V mX9_doing d b 37 [some (.ref 0), some (.int l1), some (.int l2), some (.int l3), none, none] [] (SC bo) im Q) : V mX9_doing d b 34 [some (.ref 0), some (.int l1), some (.int l2), some (.int l3), none, none] [.int s0] (SC bo) im Q := by
  refine V.if_eq (tgt := 44) dX9_doing_34 (by decide) (fun h => ?_) (fun h => ?_)
  · exact kt h
  · exact kf h
theorem bX9_doing_37 {d : Nat} {b : Nat × Nat} {bo : Bool} {im : XI} {Q : Option Value → XS → XI → Prop} {l1 : Int32} {l2 : Int32} {l3 : Int32} {P : Int32 → XI → Prop}  (hs : SpI mX9_fail d [.ref 0, .int (-1000000001 : Int32)] (SC bo) im P) (k : ∀ x2 im2, P x2 im2 → V mX9_doing (d + 1) b 43 [some (.ref 0), some (.int l1), some (.int l2), some (.int l3), none, none] [.int x2] (SC bo) im2 Q) : V mX9_doing (d + 1) b 37 [some (.ref 0), some (.int l1), some (.int l2), some (.int l3), none, none] [] (SC bo) im Q := by
  refine V.aload_n dX9_doing_37 rfl rfl ?_
  refine V.ldc kX9_64 dX9_doing_38 ?_
  refine V.cVI rfl vX9_fail lkX9_65 wX9_fail (ci := 9) rfl (by rfl) (As := [.int (-1000000001 : Int32)]) rfl rfl rfl dX9_doing_40 hs (fun x2 im2 h2 => ?_)
  exact k x2 im2 h2
theorem bX9_doing_43 {d : Nat} {b : Nat × Nat} {bo : Bool} {im : XI} {Q : Option Value → XS → XI → Prop} {l1 : Int32} {l2 : Int32} {l3 : Int32} {s0 : Int32}  (hq : Q (some (.int s0)) (SC bo) im) : V mX9_doing d b 43 [some (.ref 0), some (.int l1), some (.int l2), some (.int l3), none, none] [.int s0] (SC bo) im Q := by
  exact V.iret rfl dX9_doing_43 hq
theorem bX9_doing_44 {d : Nat} {b : Nat × Nat} {bo : Bool} {im : XI} {Q : Option Value → XS → XI → Prop} {l1 : Int32} {l2 : Int32} {l3 : Int32}  (kt : (im 1 7) < (6 : Int32) → V mX9_doing d b 63 [some (.ref 0), some (.int l1), some (.int l2), some (.int l3), none, none] [] (SC bo) im Q) (kf : ¬ (im 1 7) < (6 : Int32) → V mX9_doing d b 56 [some (.ref 0), some (.int l1), some (.int l2), some (.int l3), none, none] [] (SC bo) im Q) : V mX9_doing d b 44 [some (.ref 0), some (.int l1), some (.int l2), some (.int l3), none, none] [] (SC bo) im Q := by
  refine V.aload_n dX9_doing_44 rfl rfl ?_
  refine V.getR fX9_12 rfl (by rfl) (by rfl) dX9_doing_45 ?_
  refine V.getI fX9_122 rfl (by rfl) dX9_doing_48 ?_
  refine V.bipush (v := 6) dX9_doing_51 (by decide) ?_
  refine V.icmp_lt (tgt := 63) dX9_doing_53 (by decide) (fun h => ?_) (fun h => ?_)
  · exact kt h
  · exact kf h
theorem bX9_doing_56 {d : Nat} {b : Nat × Nat} {bo : Bool} {im : XI} {Q : Option Value → XS → XI → Prop} {l1 : Int32} {l2 : Int32} {l3 : Int32} {P : Int32 → XI → Prop}  (hs : SpI mX9_fail d [.ref 0, .int (-1000000004 : Int32)] (SC bo) im P) (k : ∀ x2 im2, P x2 im2 → V mX9_doing (d + 1) b 62 [some (.ref 0), some (.int l1), some (.int l2), some (.int l3), none, none] [.int x2] (SC bo) im2 Q) : V mX9_doing (d + 1) b 56 [some (.ref 0), some (.int l1), some (.int l2), some (.int l3), none, none] [] (SC bo) im Q := by
  refine V.aload_n dX9_doing_56 rfl rfl ?_
  refine V.ldc kX9_73 dX9_doing_57 ?_
  refine V.cVI rfl vX9_fail lkX9_65 wX9_fail (ci := 9) rfl (by rfl) (As := [.int (-1000000004 : Int32)]) rfl rfl rfl dX9_doing_59 hs (fun x2 im2 h2 => ?_)
  exact k x2 im2 h2
theorem bX9_doing_62 {d : Nat} {b : Nat × Nat} {bo : Bool} {im : XI} {Q : Option Value → XS → XI → Prop} {l1 : Int32} {l2 : Int32} {l3 : Int32} {s0 : Int32}  (hq : Q (some (.int s0)) (SC bo) im) : V mX9_doing d b 62 [some (.ref 0), some (.int l1), some (.int l2), some (.int l3), none, none] [.int s0] (SC bo) im Q := by
  exact V.iret rfl dX9_doing_62 hq
theorem bX9_doing_63 {d : Nat} {b : Nat × Nat} {bo : Bool} {im : XI} {Q : Option Value → XS → XI → Prop} {l1 : Int32} {l2 : Int32} {l3 : Int32} {i1 : Nat} (g0 : (im 1 7) = nI i1) (g1 : i1 < 6) (hq : Q (some (.int (im 1 7))) (SC bo) (xup (xup (xup (xup im (22 + i1) 0 l1) (22 + i1) 1 l2) (22 + i1) 2 l3) 1 7 (((xup (xup (xup im (22 + i1) 0 l1) (22 + i1) 1 l2) (22 + i1) 2 l3) 1 7) + (1 : Int32)))) : V mX9_doing d b 63 [some (.ref 0), some (.int l1), some (.int l2), some (.int l3), none, none] [] (SC bo) im Q := by
  refine V.aload_n dX9_doing_63 rfl rfl ?_
  refine V.getR fX9_12 rfl (by rfl) (by rfl) dX9_doing_64 ?_
  refine V.getI fX9_122 rfl (by rfl) dX9_doing_67 ?_
  refine V.istore dX9_doing_70 rfl rfl ?_
  refine V.aload_n dX9_doing_72 rfl rfl ?_
  refine V.getR fX9_12 rfl (by rfl) (by rfl) dX9_doing_73 ?_
  refine V.getR fX9_125 rfl (by rfl) (by rfl) dX9_doing_76 ?_
  refine V.iload dX9_doing_79 rfl ?_
  refine V.aald (i := i1) ⟨by rfl, by rfl, by rfl⟩ g0 g1 (xdoings g1) dX9_doing_81 ?_
  refine V.astore dX9_doing_82 rfl rfl ?_
  refine V.aload dX9_doing_84 rfl ?_
  refine V.iload_n dX9_doing_86 rfl rfl ?_
  refine V.putI fX9_129 (fun h => by cases h) rfl (xdoing g1) dX9_doing_87 ?_
  refine V.aload dX9_doing_90 rfl ?_
  refine V.iload_n dX9_doing_92 rfl rfl ?_
  refine V.putI fX9_134 (fun h => by cases h) rfl (xdoing g1) dX9_doing_93 ?_
  refine V.aload dX9_doing_96 rfl ?_
  refine V.iload_n dX9_doing_98 rfl rfl ?_
  refine V.putI fX9_137 (fun h => by cases h) rfl (xdoing g1) dX9_doing_99 ?_
  refine V.aload_n dX9_doing_102 rfl rfl ?_
  refine V.getR fX9_12 rfl (by rfl) (by rfl) dX9_doing_103 ?_
  refine V.dup dX9_doing_106 rfl ?_
  refine V.getI fX9_122 rfl (by rfl) dX9_doing_107 ?_
  refine V.iconst (v := 1) dX9_doing_110 (by decide) ?_
  refine V.iadd dX9_doing_111 ?_
  refine V.putI fX9_122 (fun h => by cases h) rfl (by rfl) dX9_doing_112 ?_
  refine V.iload dX9_doing_115 rfl ?_
  exact V.iret rfl dX9_doing_117 hq
theorem bX9_doingIs_0 {d : Nat} {b : Nat × Nat} {bo : Bool} {im : XI} {Q : Option Value → XS → XI → Prop} {l1 : Int32} {l2 : Int32} {P : Int32 → XI → Prop}  (hs : SpI mX2_hasDoing d [.ref 1, .int l1] (SC bo) im P) (k : ∀ x2 im2, P x2 im2 → V mX9_doingIs (d + 1) b 8 [some (.ref 0), some (.int l1), some (.int l2), none] [.int x2] (SC bo) im2 Q) : V mX9_doingIs (d + 1) b 0 [some (.ref 0), some (.int l1), some (.int l2), none] [] (SC bo) im Q := by
  refine V.aload_n dX9_doingIs_0 rfl rfl ?_
  refine V.getR fX9_12 rfl (by rfl) (by rfl) dX9_doingIs_1 ?_
  refine V.iload_n dX9_doingIs_4 rfl rfl ?_
  refine V.cVI rfl vX2_hasDoing lkX9_140 wX2_hasDoing (ci := 2) rfl (by rfl) (As := [.int l1]) rfl rfl rfl dX9_doingIs_5 hs (fun x2 im2 h2 => ?_)
  exact k x2 im2 h2
theorem bX9_doingIs_8 {d : Nat} {b : Nat × Nat} {bo : Bool} {im : XI} {Q : Option Value → XS → XI → Prop} {l1 : Int32} {l2 : Int32} {s0 : Int32}  (kt : s0 = 0 → V mX9_doingIs d b 20 [some (.ref 0), some (.int l1), some (.int l2), none] [] (SC bo) im Q) (kf : ¬ s0 = 0 → V mX9_doingIs d b 11 [some (.ref 0), some (.int l1), some (.int l2), none] [] (SC bo) im Q) : V mX9_doingIs d b 8 [some (.ref 0), some (.int l1), some (.int l2), none] [.int s0] (SC bo) im Q := by
  refine V.if_eq (tgt := 20) dX9_doingIs_8 (by decide) (fun h => ?_) (fun h => ?_)
  · exact kt h
  · exact kf h
theorem bX9_doingIs_11 {d : Nat} {b : Nat × Nat} {bo : Bool} {im : XI} {Q : Option Value → XS → XI → Prop} {l1 : Int32} {l2 : Int32} {P : Int32 → XI → Prop}  (hs : SpI mX9_within d [.int l2, .int (0 : Int32), .int (3 : Int32)] (SC bo) im P) (k : ∀ x2 im2, P x2 im2 → V mX9_doingIs (d + 1) b 17 [some (.ref 0), some (.int l1), some (.int l2), none] [.int x2] (SC bo) im2 Q) : V mX9_doingIs (d + 1) b 11 [some (.ref 0), some (.int l1), some (.int l2), none] [] (SC bo) im Q := by
  refine V.iload_n dX9_doingIs_11 rfl rfl ?_
  refine V.iconst (v := 0) dX9_doingIs_12 (by decide) ?_
  refine V.iconst (v := 3) dX9_doingIs_13 (by decide) ?_
  refine V.cSI rfl vX9_within lkX9_93 sX9_within (As := [.int l2, .int (0 : Int32), .int (3 : Int32)]) rfl rfl rfl dX9_doingIs_14 hs (fun x2 im2 h2 => ?_)
  exact k x2 im2 h2
theorem bX9_doingIs_17 {d : Nat} {b : Nat × Nat} {bo : Bool} {im : XI} {Q : Option Value → XS → XI → Prop} {l1 : Int32} {l2 : Int32} {s0 : Int32}  (kt : ¬ s0 = 0 → V mX9_doingIs d b 27 [some (.ref 0), some (.int l1), some (.int l2), none] [] (SC bo) im Q) (kf : s0 = 0 → V mX9_doingIs d b 20 [some (.ref 0), some (.int l1), some (.int l2), none] [] (SC bo) im Q) : V mX9_doingIs d b 17 [some (.ref 0), some (.int l1), some (.int l2), none] [.int s0] (SC bo) im Q := by
  refine V.if_ne (tgt := 27) dX9_doingIs_17 (by decide) (fun h => ?_) (fun h => ?_)
  · exact kt h
  · exact kf h
theorem bX9_doingIs_20 {d : Nat} {b : Nat × Nat} {bo : Bool} {im : XI} {Q : Option Value → XS → XI → Prop} {l1 : Int32} {l2 : Int32} {P : Int32 → XI → Prop}  (hs : SpI mX9_fail d [.ref 0, .int (-1000000001 : Int32)] (SC bo) im P) (k : ∀ x2 im2, P x2 im2 → V mX9_doingIs (d + 1) b 26 [some (.ref 0), some (.int l1), some (.int l2), none] [.int x2] (SC bo) im2 Q) : V mX9_doingIs (d + 1) b 20 [some (.ref 0), some (.int l1), some (.int l2), none] [] (SC bo) im Q := by
  refine V.aload_n dX9_doingIs_20 rfl rfl ?_
  refine V.ldc kX9_64 dX9_doingIs_21 ?_
  refine V.cVI rfl vX9_fail lkX9_65 wX9_fail (ci := 9) rfl (by rfl) (As := [.int (-1000000001 : Int32)]) rfl rfl rfl dX9_doingIs_23 hs (fun x2 im2 h2 => ?_)
  exact k x2 im2 h2
theorem bX9_doingIs_26 {d : Nat} {b : Nat × Nat} {bo : Bool} {im : XI} {Q : Option Value → XS → XI → Prop} {l1 : Int32} {l2 : Int32} {s0 : Int32}  (hq : Q (some (.int s0)) (SC bo) im) : V mX9_doingIs d b 26 [some (.ref 0), some (.int l1), some (.int l2), none] [.int s0] (SC bo) im Q := by
  exact V.iret rfl dX9_doingIs_26 hq
theorem bX9_doingIs_27 {d : Nat} {b : Nat × Nat} {bo : Bool} {im : XI} {Q : Option Value → XS → XI → Prop} {l1 : Int32} {l2 : Int32} {i1 : Nat} (g0 : l1 = nI i1) (g1 : i1 < 6) (k0 : l2 = 0 → V mX9_doingIs d b 64 [some (.ref 0), some (.int l1), some (.int l2), some (.ref (22 + i1))] [] (SC bo) im Q) (k1 : l2 = 1 → V mX9_doingIs d b 69 [some (.ref 0), some (.int l1), some (.int l2), some (.ref (22 + i1))] [] (SC bo) im Q) (k2 : l2 = 2 → V mX9_doingIs d b 74 [some (.ref 0), some (.int l1), some (.int l2), some (.ref (22 + i1))] [] (SC bo) im Q) (kd : ¬ l2 = 0 → ¬ l2 = 1 → ¬ l2 = 2 → V mX9_doingIs d b 79 [some (.ref 0), some (.int l1), some (.int l2), some (.ref (22 + i1))] [] (SC bo) im Q) : V mX9_doingIs d b 27 [some (.ref 0), some (.int l1), some (.int l2), none] [] (SC bo) im Q := by
  refine V.aload_n dX9_doingIs_27 rfl rfl ?_
  refine V.getR fX9_12 rfl (by rfl) (by rfl) dX9_doingIs_28 ?_
  refine V.getR fX9_125 rfl (by rfl) (by rfl) dX9_doingIs_31 ?_
  refine V.iload_n dX9_doingIs_34 rfl rfl ?_
  refine V.aald (i := i1) ⟨by rfl, by rfl, by rfl⟩ g0 g1 (xdoings g1) dX9_doingIs_35 ?_
  refine V.astore_n dX9_doingIs_36 rfl rfl rfl ?_
  refine V.iload_n dX9_doingIs_37 rfl rfl ?_
  by_cases c0 : l2 = 0
  · exact V.tableIn (tgt := 64) (off := 26) dX9_doingIs_38 (by rw [c0]; decide) (by rw [c0]; decide) (by rw [c0] <;> rfl) (by decide) (k0 c0)
  · skip
    by_cases c1 : l2 = 1
    · exact V.tableIn (tgt := 69) (off := 31) dX9_doingIs_38 (by rw [c1]; decide) (by rw [c1]; decide) (by rw [c1] <;> rfl) (by decide) (k1 c1)
    · skip
      by_cases c2 : l2 = 2
      · exact V.tableIn (tgt := 74) (off := 36) dX9_doingIs_38 (by rw [c2]; decide) (by rw [c2]; decide) (by rw [c2] <;> rfl) (by decide) (k2 c2)
      · skip
        exact V.tableOut (tgt := 79) dX9_doingIs_38 (by have qc0 := lv_neT c0 (a := 0) rfl; have qc1 := lv_neT c1 (a := 1) rfl; have qc2 := lv_neT c2 (a := 2) rfl; omega) (by decide) (kd c0 c1 c2)
theorem bX9_doingIs_64 {d : Nat} {b : Nat × Nat} {bo : Bool} {im : XI} {Q : Option Value → XS → XI → Prop} {l1 : Int32} {l2 : Int32} {l3 : Nat} (g0 : (SC bo).1[l3]? = some (.inl 0)) (hq : Q (some (.int (im l3 0))) (SC bo) im) : V mX9_doingIs d b 64 [some (.ref 0), some (.int l1), some (.int l2), some (.ref l3)] [] (SC bo) im Q := by
  refine V.aload_n dX9_doingIs_64 rfl rfl ?_
  refine V.getI fX9_129 rfl g0 dX9_doingIs_65 ?_
  exact V.iret rfl dX9_doingIs_68 hq
theorem bX9_doingIs_69 {d : Nat} {b : Nat × Nat} {bo : Bool} {im : XI} {Q : Option Value → XS → XI → Prop} {l1 : Int32} {l2 : Int32} {l3 : Nat} (g0 : (SC bo).1[l3]? = some (.inl 0)) (hq : Q (some (.int (im l3 1))) (SC bo) im) : V mX9_doingIs d b 69 [some (.ref 0), some (.int l1), some (.int l2), some (.ref l3)] [] (SC bo) im Q := by
  refine V.aload_n dX9_doingIs_69 rfl rfl ?_
  refine V.getI fX9_134 rfl g0 dX9_doingIs_70 ?_
  exact V.iret rfl dX9_doingIs_73 hq
theorem bX9_doingIs_74 {d : Nat} {b : Nat × Nat} {bo : Bool} {im : XI} {Q : Option Value → XS → XI → Prop} {l1 : Int32} {l2 : Int32} {l3 : Nat} (g0 : (SC bo).1[l3]? = some (.inl 0)) (hq : Q (some (.int (im l3 2))) (SC bo) im) : V mX9_doingIs d b 74 [some (.ref 0), some (.int l1), some (.int l2), some (.ref l3)] [] (SC bo) im Q := by
  refine V.aload_n dX9_doingIs_74 rfl rfl ?_
  refine V.getI fX9_137 rfl g0 dX9_doingIs_75 ?_
  exact V.iret rfl dX9_doingIs_78 hq
theorem bX9_doingIs_79 {d : Nat} {b : Nat × Nat} {bo : Bool} {im : XI} {Q : Option Value → XS → XI → Prop} {l1 : Int32} {l2 : Int32} {l3 : Nat} {P : Int32 → XI → Prop} (g0 : (SC bo).1[l3]? = some (.inl 0)) (hs : SpI mX2_shutSet d [.ref 1, .int (im 1 8)] (SC bo) im P) (k : ∀ x2 im2, P x2 im2 → V mX9_doingIs (d + 1) b 102 [some (.ref 0), some (.int l1), some (.int l2), some (.ref l3)] [.int x2, .int (im l3 1), .ref l3, .ref 1] (SC bo) im2 Q) : V mX9_doingIs (d + 1) b 79 [some (.ref 0), some (.int l1), some (.int l2), some (.ref l3)] [] (SC bo) im Q := by
  refine V.aload_n dX9_doingIs_79 rfl rfl ?_
  refine V.getR fX9_12 rfl (by rfl) (by rfl) dX9_doingIs_80 ?_
  refine V.aload_n dX9_doingIs_83 rfl rfl ?_
  refine V.aload_n dX9_doingIs_84 rfl rfl ?_
  refine V.getI fX9_134 rfl g0 dX9_doingIs_85 ?_
  refine V.aload_n dX9_doingIs_88 rfl rfl ?_
  refine V.getR fX9_12 rfl (by rfl) (by rfl) dX9_doingIs_89 ?_
  refine V.aload_n dX9_doingIs_92 rfl rfl ?_
  refine V.getR fX9_12 rfl (by rfl) (by rfl) dX9_doingIs_93 ?_
  refine V.getI fX9_103 rfl (by rfl) dX9_doingIs_96 ?_
  refine V.cVI rfl vX2_shutSet lkX9_143 wX2_shutSet (ci := 2) rfl (by rfl) (As := [.int (im 1 8)]) rfl rfl rfl dX9_doingIs_99 hs (fun x2 im2 h2 => ?_)
  exact k x2 im2 h2
theorem bX9_doingIs_102 {d : Nat} {b : Nat × Nat} {bo : Bool} {im : XI} {Q : Option Value → XS → XI → Prop} {l1 : Int32} {l2 : Int32} {l3 : Nat} {s0 : Nat} {s1 : Nat} {s2 : Int32} {s3 : Int32} {P : Int32 → XI → Prop} (g0 : (SC bo).1[s0]? = some (.inl 2)) (hs : SpI mX2_getsOnBy d [.ref s0, .ref s1, .int s2, .int s3] (SC bo) im P) (k : ∀ x2 im2, P x2 im2 → V mX9_doingIs (d + 1) b 105 [some (.ref 0), some (.int l1), some (.int l2), some (.ref l3)] [.int x2] (SC bo) im2 Q) : V mX9_doingIs (d + 1) b 102 [some (.ref 0), some (.int l1), some (.int l2), some (.ref l3)] [.int s3, .int s2, .ref s1, .ref s0] (SC bo) im Q := by
  refine V.cVI rfl vX2_getsOnBy lkX9_146 wX2_getsOnBy (ci := 2) rfl g0 (As := [.ref s1, .int s2, .int s3]) rfl rfl rfl dX9_doingIs_102 hs (fun x2 im2 h2 => ?_)
  exact k x2 im2 h2
theorem bX9_doingIs_105 {d : Nat} {b : Nat × Nat} {bo : Bool} {im : XI} {Q : Option Value → XS → XI → Prop} {l1 : Int32} {l2 : Int32} {l3 : Nat} {s0 : Int32}  (hq : Q (some (.int s0)) (SC bo) im) : V mX9_doingIs d b 105 [some (.ref 0), some (.int l1), some (.int l2), some (.ref l3)] [.int s0] (SC bo) im Q := by
  exact V.iret rfl dX9_doingIs_105 hq
theorem bX9_sets_0 {d : Nat} {b : Nat × Nat} {bo : Bool} {im : XI} {Q : Option Value → XS → XI → Prop} {l1 : Int32} {l2 : Int32} {P : Int32 → XI → Prop}  (hs : SpI mX2_hasDoing d [.ref 1, .int l1] (SC bo) im P) (k : ∀ x2 im2, P x2 im2 → V mX9_sets (d + 1) b 8 [some (.ref 0), some (.int l1), some (.int l2), none, none] [.int x2] (SC bo) im2 Q) : V mX9_sets (d + 1) b 0 [some (.ref 0), some (.int l1), some (.int l2), none, none] [] (SC bo) im Q := by
  refine V.aload_n dX9_sets_0 rfl rfl ?_
  refine V.getR fX9_12 rfl (by rfl) (by rfl) dX9_sets_1 ?_
  refine V.iload_n dX9_sets_4 rfl rfl ?_
  refine V.cVI rfl vX2_hasDoing lkX9_140 wX2_hasDoing (ci := 2) rfl (by rfl) (As := [.int l1]) rfl rfl rfl dX9_sets_5 hs (fun x2 im2 h2 => ?_)
  exact k x2 im2 h2
theorem bX9_sets_8 {d : Nat} {b : Nat × Nat} {bo : Bool} {im : XI} {Q : Option Value → XS → XI → Prop} {l1 : Int32} {l2 : Int32} {s0 : Int32}  (kt : s0 = 0 → V mX9_sets d b 18 [some (.ref 0), some (.int l1), some (.int l2), none, none] [] (SC bo) im Q) (kf : ¬ s0 = 0 → V mX9_sets d b 11 [some (.ref 0), some (.int l1), some (.int l2), none, none] [] (SC bo) im Q) : V mX9_sets d b 8 [some (.ref 0), some (.int l1), some (.int l2), none, none] [.int s0] (SC bo) im Q := by
  refine V.if_eq (tgt := 18) dX9_sets_8 (by decide) (fun h => ?_) (fun h => ?_)
  · exact kt h
  · exact kf h
theorem bX9_sets_11 {d : Nat} {b : Nat × Nat} {bo : Bool} {im : XI} {Q : Option Value → XS → XI → Prop} {l1 : Int32} {l2 : Int32} {P : Int32 → XI → Prop}  (hs : SpI mX9_isParts d [.int l2] (SC bo) im P) (k : ∀ x2 im2, P x2 im2 → V mX9_sets (d + 1) b 15 [some (.ref 0), some (.int l1), some (.int l2), none, none] [.int x2] (SC bo) im2 Q) : V mX9_sets (d + 1) b 11 [some (.ref 0), some (.int l1), some (.int l2), none, none] [] (SC bo) im Q := by
  refine V.iload_n dX9_sets_11 rfl rfl ?_
  refine V.cSI rfl vX9_isParts lkX9_113 sX9_isParts (As := [.int l2]) rfl rfl rfl dX9_sets_12 hs (fun x2 im2 h2 => ?_)
  exact k x2 im2 h2
theorem bX9_sets_15 {d : Nat} {b : Nat × Nat} {bo : Bool} {im : XI} {Q : Option Value → XS → XI → Prop} {l1 : Int32} {l2 : Int32} {s0 : Int32}  (kt : ¬ s0 = 0 → V mX9_sets d b 25 [some (.ref 0), some (.int l1), some (.int l2), none, none] [] (SC bo) im Q) (kf : s0 = 0 → V mX9_sets d b 18 [some (.ref 0), some (.int l1), some (.int l2), none, none] [] (SC bo) im Q) : V mX9_sets d b 15 [some (.ref 0), some (.int l1), some (.int l2), none, none] [.int s0] (SC bo) im Q := by
  refine V.if_ne (tgt := 25) dX9_sets_15 (by decide) (fun h => ?_) (fun h => ?_)
  · exact kt h
  · exact kf h
theorem bX9_sets_18 {d : Nat} {b : Nat × Nat} {bo : Bool} {im : XI} {Q : Option Value → XS → XI → Prop} {l1 : Int32} {l2 : Int32} {P : Int32 → XI → Prop}  (hs : SpI mX9_fail d [.ref 0, .int (-1000000001 : Int32)] (SC bo) im P) (k : ∀ x2 im2, P x2 im2 → V mX9_sets (d + 1) b 24 [some (.ref 0), some (.int l1), some (.int l2), none, none] [.int x2] (SC bo) im2 Q) : V mX9_sets (d + 1) b 18 [some (.ref 0), some (.int l1), some (.int l2), none, none] [] (SC bo) im Q := by
  refine V.aload_n dX9_sets_18 rfl rfl ?_
  refine V.ldc kX9_64 dX9_sets_19 ?_
  refine V.cVI rfl vX9_fail lkX9_65 wX9_fail (ci := 9) rfl (by rfl) (As := [.int (-1000000001 : Int32)]) rfl rfl rfl dX9_sets_21 hs (fun x2 im2 h2 => ?_)
  exact k x2 im2 h2
theorem bX9_sets_24 {d : Nat} {b : Nat × Nat} {bo : Bool} {im : XI} {Q : Option Value → XS → XI → Prop} {l1 : Int32} {l2 : Int32} {s0 : Int32}  (hq : Q (some (.int s0)) (SC bo) im) : V mX9_sets d b 24 [some (.ref 0), some (.int l1), some (.int l2), none, none] [.int s0] (SC bo) im Q := by
  exact V.iret rfl dX9_sets_24 hq
theorem bX9_sets_25 {d : Nat} {b : Nat × Nat} {bo : Bool} {im : XI} {Q : Option Value → XS → XI → Prop} {l1 : Int32} {l2 : Int32} {i1 : Nat} (g0 : l1 = nI i1) (g1 : i1 < 6) (hq : Q (some (.int (im (22 + i1) 1))) (SC bo) (xup im (22 + i1) 1 l2)) : V mX9_sets d b 25 [some (.ref 0), some (.int l1), some (.int l2), none, none] [] (SC bo) im Q := by
  refine V.aload_n dX9_sets_25 rfl rfl ?_
  refine V.getR fX9_12 rfl (by rfl) (by rfl) dX9_sets_26 ?_
  refine V.getR fX9_125 rfl (by rfl) (by rfl) dX9_sets_29 ?_
  refine V.iload_n dX9_sets_32 rfl rfl ?_
  refine V.aald (i := i1) ⟨by rfl, by rfl, by rfl⟩ g0 g1 (xdoings g1) dX9_sets_33 ?_
  refine V.astore_n dX9_sets_34 rfl rfl rfl ?_
  refine V.aload_n dX9_sets_35 rfl rfl ?_
  refine V.getI fX9_134 rfl (xdoing g1) dX9_sets_36 ?_
  refine V.istore dX9_sets_39 rfl rfl ?_
  refine V.aload_n dX9_sets_41 rfl rfl ?_
  refine V.iload_n dX9_sets_42 rfl rfl ?_
  refine V.putI fX9_134 (fun h => by cases h) rfl (xdoing g1) dX9_sets_43 ?_
  refine V.iload dX9_sets_46 rfl ?_
  exact V.iret rfl dX9_sets_48 hq
theorem bX9_shut_0 {d : Nat} {b : Nat × Nat} {bo : Bool} {im : XI} {Q : Option Value → XS → XI → Prop} {P : Int32 → XI → Prop}  (hs : SpI mX2_shutSet d [.ref 1, .int (im 1 8)] (SC bo) im P) (k : ∀ x2 im2, P x2 im2 → V mX9_shut (d + 1) b 14 [some (.ref 0)] [.int x2] (SC bo) im2 Q) : V mX9_shut (d + 1) b 0 [some (.ref 0)] [] (SC bo) im Q := by
  refine V.aload_n dX9_shut_0 rfl rfl ?_
  refine V.getR fX9_12 rfl (by rfl) (by rfl) dX9_shut_1 ?_
  refine V.aload_n dX9_shut_4 rfl rfl ?_
  refine V.getR fX9_12 rfl (by rfl) (by rfl) dX9_shut_5 ?_
  refine V.getI fX9_103 rfl (by rfl) dX9_shut_8 ?_
  refine V.cVI rfl vX2_shutSet lkX9_143 wX2_shutSet (ci := 2) rfl (by rfl) (As := [.int (im 1 8)]) rfl rfl rfl dX9_shut_11 hs (fun x2 im2 h2 => ?_)
  exact k x2 im2 h2
theorem bX9_shut_14 {d : Nat} {b : Nat × Nat} {bo : Bool} {im : XI} {Q : Option Value → XS → XI → Prop} {s0 : Int32}  (hq : Q (some (.int s0)) (SC bo) im) : V mX9_shut d b 14 [some (.ref 0)] [.int s0] (SC bo) im Q := by
  exact V.iret rfl dX9_shut_14 hq
theorem bX9_feed_0 {d : Nat} {b : Nat × Nat} {bo : Bool} {im : XI} {Q : Option Value → XS → XI → Prop} {l1 : Int64} {l3 : Int32} {P : Int32 → XI → Prop}  (hs : SpI mX9_within d [.int l3, .int (1 : Int32), .int (8 : Int32)] (SC bo) im P) (k : ∀ x2 im2, P x2 im2 → V mX9_feed (d + 1) b 7 [some (.ref 0), some (.long l1), none, some (.int l3), none] [.int x2] (SC bo) im2 Q) : V mX9_feed (d + 1) b 0 [some (.ref 0), some (.long l1), none, some (.int l3), none] [] (SC bo) im Q := by
  refine V.iload_n dX9_feed_0 rfl rfl ?_
  refine V.iconst (v := 1) dX9_feed_1 (by decide) ?_
  refine V.bipush (v := 8) dX9_feed_2 (by decide) ?_
  refine V.cSI rfl vX9_within lkX9_93 sX9_within (As := [.int l3, .int (1 : Int32), .int (8 : Int32)]) rfl rfl rfl dX9_feed_4 hs (fun x2 im2 h2 => ?_)
  exact k x2 im2 h2
theorem bX9_feed_7 {d : Nat} {b : Nat × Nat} {bo : Bool} {im : XI} {Q : Option Value → XS → XI → Prop} {l1 : Int64} {l3 : Int32} {s0 : Int32}  (kt : ¬ s0 = 0 → V mX9_feed d b 17 [some (.ref 0), some (.long l1), none, some (.int l3), none] [] (SC bo) im Q) (kf : s0 = 0 → V mX9_feed d b 10 [some (.ref 0), some (.long l1), none, some (.int l3), none] [] (SC bo) im Q) : V mX9_feed d b 7 [some (.ref 0), some (.long l1), none, some (.int l3), none] [.int s0] (SC bo) im Q := by
  refine V.if_ne (tgt := 17) dX9_feed_7 (by decide) (fun h => ?_) (fun h => ?_)
  · exact kt h
  · exact kf h
theorem bX9_feed_10 {d : Nat} {b : Nat × Nat} {bo : Bool} {im : XI} {Q : Option Value → XS → XI → Prop} {l1 : Int64} {l3 : Int32} {P : Int32 → XI → Prop}  (hs : SpI mX9_fail d [.ref 0, .int (-1000000001 : Int32)] (SC bo) im P) (k : ∀ x2 im2, P x2 im2 → V mX9_feed (d + 1) b 16 [some (.ref 0), some (.long l1), none, some (.int l3), none] [.int x2] (SC bo) im2 Q) : V mX9_feed (d + 1) b 10 [some (.ref 0), some (.long l1), none, some (.int l3), none] [] (SC bo) im Q := by
  refine V.aload_n dX9_feed_10 rfl rfl ?_
  refine V.ldc kX9_64 dX9_feed_11 ?_
  refine V.cVI rfl vX9_fail lkX9_65 wX9_fail (ci := 9) rfl (by rfl) (As := [.int (-1000000001 : Int32)]) rfl rfl rfl dX9_feed_13 hs (fun x2 im2 h2 => ?_)
  exact k x2 im2 h2
theorem bX9_feed_16 {d : Nat} {b : Nat × Nat} {bo : Bool} {im : XI} {Q : Option Value → XS → XI → Prop} {l1 : Int64} {l3 : Int32} {s0 : Int32}  (hq : Q (some (.int s0)) (SC bo) im) : V mX9_feed d b 16 [some (.ref 0), some (.long l1), none, some (.int l3), none] [.int s0] (SC bo) im Q := by
  exact V.iret rfl dX9_feed_16 hq
theorem bX9_feed_17 {d : Nat} {b : Nat × Nat} {bo : Bool} {im : XI} {Q : Option Value → XS → XI → Prop} {l1 : Int64} {l3 : Int32} {P : Int32 → XI → Prop}  (hs : SpI mX6_size d [.ref 12] (SC bo) im P) (k : ∀ x2 im2, P x2 im2 → V mX9_feed (d + 1) b 27 [some (.ref 0), some (.long l1), none, some (.int l3), none] [.int x2] (SC bo) im2 Q) : V mX9_feed (d + 1) b 17 [some (.ref 0), some (.long l1), none, some (.int l3), none] [] (SC bo) im Q := by
  refine V.aload_n dX9_feed_17 rfl rfl ?_
  refine V.getR fX9_12 rfl (by rfl) (by rfl) dX9_feed_18 ?_
  refine V.getR fX9_18 rfl (by rfl) (by rfl) dX9_feed_21 ?_
  refine V.cVI rfl vX6_size lkX9_150 wX6_size (ci := 6) rfl (by rfl) (As := []) rfl rfl rfl dX9_feed_24 hs (fun x2 im2 h2 => ?_)
  exact k x2 im2 h2
theorem bX9_feed_27 {d : Nat} {b : Nat × Nat} {bo : Bool} {im : XI} {Q : Option Value → XS → XI → Prop} {l1 : Int64} {l3 : Int32} {s0 : Int32}  (kt : (s0 + l3) ≤ (60 : Int32) → V mX9_feed d b 41 [some (.ref 0), some (.long l1), none, some (.int l3), none] [] (SC bo) im Q) (kf : ¬ (s0 + l3) ≤ (60 : Int32) → V mX9_feed d b 34 [some (.ref 0), some (.long l1), none, some (.int l3), none] [] (SC bo) im Q) : V mX9_feed d b 27 [some (.ref 0), some (.long l1), none, some (.int l3), none] [.int s0] (SC bo) im Q := by
  refine V.iload_n dX9_feed_27 rfl rfl ?_
  refine V.iadd dX9_feed_28 ?_
  refine V.bipush (v := 60) dX9_feed_29 (by decide) ?_
  refine V.icmp_le (tgt := 41) dX9_feed_31 (by decide) (fun h => ?_) (fun h => ?_)
  · exact kt h
  · exact kf h
theorem bX9_feed_34 {d : Nat} {b : Nat × Nat} {bo : Bool} {im : XI} {Q : Option Value → XS → XI → Prop} {l1 : Int64} {l3 : Int32} {P : Int32 → XI → Prop}  (hs : SpI mX9_fail d [.ref 0, .int (-1000000004 : Int32)] (SC bo) im P) (k : ∀ x2 im2, P x2 im2 → V mX9_feed (d + 1) b 40 [some (.ref 0), some (.long l1), none, some (.int l3), none] [.int x2] (SC bo) im2 Q) : V mX9_feed (d + 1) b 34 [some (.ref 0), some (.long l1), none, some (.int l3), none] [] (SC bo) im Q := by
  refine V.aload_n dX9_feed_34 rfl rfl ?_
  refine V.ldc kX9_73 dX9_feed_35 ?_
  refine V.cVI rfl vX9_fail lkX9_65 wX9_fail (ci := 9) rfl (by rfl) (As := [.int (-1000000004 : Int32)]) rfl rfl rfl dX9_feed_37 hs (fun x2 im2 h2 => ?_)
  exact k x2 im2 h2
theorem bX9_feed_40 {d : Nat} {b : Nat × Nat} {bo : Bool} {im : XI} {Q : Option Value → XS → XI → Prop} {l1 : Int64} {l3 : Int32} {s0 : Int32}  (hq : Q (some (.int s0)) (SC bo) im) : V mX9_feed d b 40 [some (.ref 0), some (.long l1), none, some (.int l3), none] [.int s0] (SC bo) im Q := by
  exact V.iret rfl dX9_feed_40 hq
theorem bX9_feed_41 {d : Nat} {b : Nat × Nat} {bo : Bool} {im : XI} {Q : Option Value → XS → XI → Prop} {l1 : Int64} {l3 : Int32}  (k : V mX9_feed d b 44 [some (.ref 0), some (.long l1), none, some (.int l3), some (.int (0 : Int32))] [] (SC bo) im Q) : V mX9_feed d b 41 [some (.ref 0), some (.long l1), none, some (.int l3), none] [] (SC bo) im Q := by
  refine V.iconst (v := 0) dX9_feed_41 (by decide) ?_
  refine V.istore dX9_feed_42 rfl rfl ?_
  exact k
theorem bX9_feed_44 {d : Nat} {b : Nat × Nat} {bo : Bool} {im : XI} {Q : Option Value → XS → XI → Prop} {l1 : Int64} {l3 : Int32} {l4 : Int32}  (kt : l3 ≤ l4 → V mX9_feed d b 79 [some (.ref 0), some (.long l1), none, some (.int l3), some (.int l4)] [] (SC bo) im Q) (kf : ¬ l3 ≤ l4 → V mX9_feed d b 50 [some (.ref 0), some (.long l1), none, some (.int l3), some (.int l4)] [] (SC bo) im Q) : V mX9_feed d b 44 [some (.ref 0), some (.long l1), none, some (.int l3), some (.int l4)] [] (SC bo) im Q := by
  refine V.iload dX9_feed_44 rfl ?_
  refine V.iload_n dX9_feed_46 rfl rfl ?_
  refine V.icmp_ge (tgt := 79) dX9_feed_47 (by decide) (fun h => ?_) (fun h => ?_)
  · exact kt h
  · exact kf h
theorem bX9_feed_50 {d : Nat} {b : Nat × Nat} {bo : Bool} {im : XI} {Q : Option Value → XS → XI → Prop} {l1 : Int64} {l3 : Int32} {l4 : Int32} {P : Int32 → XI → Prop}  (hs : SpI mX6_add d [.ref 12, .int ((((l1).toUInt64 >>> ((((8 : Int32) * l4)).toInt64.toUInt64 &&& Int64.toUInt64 63)).toInt64 &&& (255 : Int64))).toInt32] (SC bo) im P) (k : ∀ x2 im2, P x2 im2 → V mX9_feed (d + 1) b 72 [some (.ref 0), some (.long l1), none, some (.int l3), some (.int l4)] [.int x2] (SC bo) im2 Q) : V mX9_feed (d + 1) b 50 [some (.ref 0), some (.long l1), none, some (.int l3), some (.int l4)] [] (SC bo) im Q := by
  refine V.aload_n dX9_feed_50 rfl rfl ?_
  refine V.getR fX9_12 rfl (by rfl) (by rfl) dX9_feed_51 ?_
  refine V.getR fX9_18 rfl (by rfl) (by rfl) dX9_feed_54 ?_
  refine V.lload_n dX9_feed_57 rfl rfl ?_
  refine V.bipush (v := 8) dX9_feed_58 (by decide) ?_
  refine V.iload dX9_feed_60 rfl ?_
  refine V.imul dX9_feed_62 ?_
  refine V.lushr dX9_feed_63 ?_
  refine V.ldc2 klX9_156 dX9_feed_64 ?_
  refine V.land dX9_feed_67 ?_
  refine V.l2i dX9_feed_68 ?_
  refine V.cVI rfl vX6_add lkX9_158 wX6_add (ci := 6) rfl (by rfl) (As := [.int ((((l1).toUInt64 >>> ((((8 : Int32) * l4)).toInt64.toUInt64 &&& Int64.toUInt64 63)).toInt64 &&& (255 : Int64))).toInt32]) rfl rfl rfl dX9_feed_69 hs (fun x2 im2 h2 => ?_)
  exact k x2 im2 h2
theorem bX9_feed_72 {d : Nat} {b : Nat × Nat} {bo : Bool} {im : XI} {Q : Option Value → XS → XI → Prop} {l1 : Int64} {l3 : Int32} {l4 : Int32} {s0 : Int32}  (k : V mX9_feed d b 44 [some (.ref 0), some (.long l1), none, some (.int l3), some (.int (l4 + (1 : Int32)))] [] (SC bo) im Q) : V mX9_feed d b 72 [some (.ref 0), some (.long l1), none, some (.int l3), some (.int l4)] [.int s0] (SC bo) im Q := by
  refine V.pop dX9_feed_72 rfl ?_
  refine V.iinc (v := (l4 + (1 : Int32))) dX9_feed_73 rfl rfl rfl ?_
  refine V.goto (tgt := 44) dX9_feed_76 (by decide) ?_
  exact k
theorem bX9_feed_79 {d : Nat} {b : Nat × Nat} {bo : Bool} {im : XI} {Q : Option Value → XS → XI → Prop} {l1 : Int64} {l3 : Int32} {l4 : Int32} {P : Int32 → XI → Prop}  (hs : SpI mX6_size d [.ref 12] (SC bo) im P) (k : ∀ x2 im2, P x2 im2 → V mX9_feed (d + 1) b 89 [some (.ref 0), some (.long l1), none, some (.int l3), some (.int l4)] [.int x2] (SC bo) im2 Q) : V mX9_feed (d + 1) b 79 [some (.ref 0), some (.long l1), none, some (.int l3), some (.int l4)] [] (SC bo) im Q := by
  refine V.aload_n dX9_feed_79 rfl rfl ?_
  refine V.getR fX9_12 rfl (by rfl) (by rfl) dX9_feed_80 ?_
  refine V.getR fX9_18 rfl (by rfl) (by rfl) dX9_feed_83 ?_
  refine V.cVI rfl vX6_size lkX9_150 wX6_size (ci := 6) rfl (by rfl) (As := []) rfl rfl rfl dX9_feed_86 hs (fun x2 im2 h2 => ?_)
  exact k x2 im2 h2
theorem bX9_feed_89 {d : Nat} {b : Nat × Nat} {bo : Bool} {im : XI} {Q : Option Value → XS → XI → Prop} {l1 : Int64} {l3 : Int32} {l4 : Int32} {s0 : Int32}  (hq : Q (some (.int s0)) (SC bo) im) : V mX9_feed d b 89 [some (.ref 0), some (.long l1), none, some (.int l3), some (.int l4)] [.int s0] (SC bo) im Q := by
  exact V.iret rfl dX9_feed_89 hq
theorem bX9_text_0 {d : Nat} {b : Nat × Nat} {bo : Bool} {im : XI} {Q : Option Value → XS → XI → Prop} {l1 : Int32} {P : Int32 → XI → Prop}  (hs : SpI mX9_isUse d [.int l1] (SC bo) im P) (k : ∀ x2 im2, P x2 im2 → V mX9_text (d + 1) b 4 [some (.ref 0), some (.int l1), none] [.int x2] (SC bo) im2 Q) : V mX9_text (d + 1) b 0 [some (.ref 0), some (.int l1), none] [] (SC bo) im Q := by
  refine V.iload_n dX9_text_0 rfl rfl ?_
  refine V.cSI rfl vX9_isUse lkX9_161 sX9_isUse (As := [.int l1]) rfl rfl rfl dX9_text_1 hs (fun x2 im2 h2 => ?_)
  exact k x2 im2 h2
theorem bX9_text_4 {d : Nat} {b : Nat × Nat} {bo : Bool} {im : XI} {Q : Option Value → XS → XI → Prop} {l1 : Int32} {s0 : Int32}  (kt : ¬ s0 = 0 → V mX9_text d b 14 [some (.ref 0), some (.int l1), none] [] (SC bo) im Q) (kf : s0 = 0 → V mX9_text d b 7 [some (.ref 0), some (.int l1), none] [] (SC bo) im Q) : V mX9_text d b 4 [some (.ref 0), some (.int l1), none] [.int s0] (SC bo) im Q := by
  refine V.if_ne (tgt := 14) dX9_text_4 (by decide) (fun h => ?_) (fun h => ?_)
  · exact kt h
  · exact kf h
theorem bX9_text_7 {d : Nat} {b : Nat × Nat} {bo : Bool} {im : XI} {Q : Option Value → XS → XI → Prop} {l1 : Int32} {P : Int32 → XI → Prop}  (hs : SpI mX9_fail d [.ref 0, .int (-1000000001 : Int32)] (SC bo) im P) (k : ∀ x2 im2, P x2 im2 → V mX9_text (d + 1) b 13 [some (.ref 0), some (.int l1), none] [.int x2] (SC bo) im2 Q) : V mX9_text (d + 1) b 7 [some (.ref 0), some (.int l1), none] [] (SC bo) im Q := by
  refine V.aload_n dX9_text_7 rfl rfl ?_
  refine V.ldc kX9_64 dX9_text_8 ?_
  refine V.cVI rfl vX9_fail lkX9_65 wX9_fail (ci := 9) rfl (by rfl) (As := [.int (-1000000001 : Int32)]) rfl rfl rfl dX9_text_10 hs (fun x2 im2 h2 => ?_)
  exact k x2 im2 h2
theorem bX9_text_13 {d : Nat} {b : Nat × Nat} {bo : Bool} {im : XI} {Q : Option Value → XS → XI → Prop} {l1 : Int32} {s0 : Int32}  (hq : Q (some (.int s0)) (SC bo) im) : V mX9_text d b 13 [some (.ref 0), some (.int l1), none] [.int s0] (SC bo) im Q := by
  exact V.iret rfl dX9_text_13 hq
theorem bX9_text_14 {d : Nat} {b : Nat × Nat} {bo : Bool} {im : XI} {Q : Option Value → XS → XI → Prop} {l1 : Int32} {P : Int32 → XI → Prop}  (hs : SpI mX5_reads d [.ref 28, .int l1] (SC bo) im P) (k : ∀ x2 im2, P x2 im2 → V mX9_text (d + 1) b 22 [some (.ref 0), some (.int l1), none] [.int x2] (SC bo) im2 Q) : V mX9_text (d + 1) b 14 [some (.ref 0), some (.int l1), none] [] (SC bo) im Q := by
  refine V.aload_n dX9_text_14 rfl rfl ?_
  refine V.getR fX9_25 rfl (by rfl) (by rfl) dX9_text_15 ?_
  refine V.iload_n dX9_text_18 rfl rfl ?_
  refine V.cVI rfl vX5_reads lkX9_164 wX5_reads (ci := 5) rfl (by rfl) (As := [.int l1]) rfl rfl rfl dX9_text_19 hs (fun x2 im2 h2 => ?_)
  exact k x2 im2 h2
theorem bX9_text_22 {d : Nat} {b : Nat × Nat} {bo : Bool} {im : XI} {Q : Option Value → XS → XI → Prop} {l1 : Int32} {s0 : Int32} {P : XI → Prop}  (hs : SpV mX6_clear d [.ref 12] (SC bo) im P) (k : ∀ im2, P im2 → V mX9_text (d + 1) b 33 [some (.ref 0), some (.int l1), some (.int s0)] [] (SC bo) im2 Q) : V mX9_text (d + 1) b 22 [some (.ref 0), some (.int l1), none] [.int s0] (SC bo) im Q := by
  refine V.istore_n dX9_text_22 rfl rfl rfl ?_
  refine V.aload_n dX9_text_23 rfl rfl ?_
  refine V.getR fX9_12 rfl (by rfl) (by rfl) dX9_text_24 ?_
  refine V.getR fX9_18 rfl (by rfl) (by rfl) dX9_text_27 ?_
  refine V.cVV rfl vX6_clear lkX9_167 wX6_clear (ci := 6) rfl (by rfl) (As := []) rfl rfl rfl dX9_text_30 hs (fun im2 h2 => ?_)
  exact k im2 h2
theorem bX9_text_33 {d : Nat} {b : Nat × Nat} {bo : Bool} {im : XI} {Q : Option Value → XS → XI → Prop} {l1 : Int32} {l2 : Int32}  (kt : ¬ l2 = 0 → V mX9_text d b 48 [some (.ref 0), some (.int l1), some (.int l2)] [] (SC bo) im Q) (kf : l2 = 0 → V mX9_text d b 37 [some (.ref 0), some (.int l1), some (.int l2)] [] (SC bo) im Q) : V mX9_text d b 33 [some (.ref 0), some (.int l1), some (.int l2)] [] (SC bo) im Q := by
  refine V.iload_n dX9_text_33 rfl rfl ?_
  refine V.if_ne (tgt := 48) dX9_text_34 (by decide) (fun h => ?_) (fun h => ?_)
  · exact kt h
  · exact kf h
theorem bX9_text_37 {d : Nat} {b : Nat × Nat} {bo : Bool} {im : XI} {Q : Option Value → XS → XI → Prop} {l1 : Int32} {l2 : Int32} {P : Int32 → XI → Prop}  (hs : SpI mX5_fault d [.ref 28] (SC bo) im P) (k : ∀ x2 im2, P x2 im2 → V mX9_text (d + 1) b 46 [some (.ref 0), some (.int l1), some (.int l2)] [.int x2, .int (-10 : Int32)] (SC bo) im2 Q) : V mX9_text (d + 1) b 37 [some (.ref 0), some (.int l1), some (.int l2)] [] (SC bo) im Q := by
  refine V.bipush (v := -10) dX9_text_37 (by decide) ?_
  refine V.aload_n dX9_text_39 rfl rfl ?_
  refine V.getR fX9_25 rfl (by rfl) (by rfl) dX9_text_40 ?_
  refine V.cVI rfl vX5_fault lkX9_170 wX5_fault (ci := 5) rfl (by rfl) (As := []) rfl rfl rfl dX9_text_43 hs (fun x2 im2 h2 => ?_)
  exact k x2 im2 h2
theorem bX9_text_46 {d : Nat} {b : Nat × Nat} {bo : Bool} {im : XI} {Q : Option Value → XS → XI → Prop} {l1 : Int32} {l2 : Int32} {s0 : Int32} {s1 : Int32}  (hq : Q (some (.int (s0 - s1))) (SC bo) im) : V mX9_text d b 46 [some (.ref 0), some (.int l1), some (.int l2)] [.int s1, .int s0] (SC bo) im Q := by
  refine V.isub dX9_text_46 ?_
  exact V.iret rfl dX9_text_47 hq
theorem bX9_text_48 {d : Nat} {b : Nat × Nat} {bo : Bool} {im : XI} {Q : Option Value → XS → XI → Prop} {l1 : Int32} {l2 : Int32} {P : Nat → XI → Prop}  (hs : SpR mX2_lawOf d [.ref 1, .int l1] (SC bo) im P) (k : ∀ x2 im2, P x2 im2 → V mX9_text (d + 1) b 56 [some (.ref 0), some (.int l1), some (.int l2)] [.ref x2] (SC bo) im2 Q) : V mX9_text (d + 1) b 48 [some (.ref 0), some (.int l1), some (.int l2)] [] (SC bo) im Q := by
  refine V.aload_n dX9_text_48 rfl rfl ?_
  refine V.getR fX9_12 rfl (by rfl) (by rfl) dX9_text_49 ?_
  refine V.iload_n dX9_text_52 rfl rfl ?_
  refine V.cVR rfl vX2_lawOf lkX9_173 wX2_lawOf (ci := 2) rfl (by rfl) (As := [.int l1]) rfl rfl rfl dX9_text_53 hs (fun x2 im2 h2 => ?_)
  exact k x2 im2 h2
theorem bX9_text_56 {d : Nat} {b : Nat × Nat} {bo : Bool} {im : XI} {Q : Option Value → XS → XI → Prop} {l1 : Int32} {l2 : Int32} {s0 : Nat} {P : XI → Prop} (g0 : (SC bo).1[s0]? = some (.inl 3)) (hs : SpV mX3_give d [.ref s0, .ref 29] (SC bo) im P) (k : ∀ im2, P im2 → V mX9_text (d + 1) b 66 [some (.ref 0), some (.int l1), some (.int l2)] [] (SC bo) im2 Q) : V mX9_text (d + 1) b 56 [some (.ref 0), some (.int l1), some (.int l2)] [.ref s0] (SC bo) im Q := by
  refine V.aload_n dX9_text_56 rfl rfl ?_
  refine V.getR fX9_25 rfl (by rfl) (by rfl) dX9_text_57 ?_
  refine V.getR fX9_177 rfl (by rfl) (by rfl) dX9_text_60 ?_
  refine V.cVV rfl vX3_give lkX9_180 wX3_give (ci := 3) rfl g0 (As := [.ref 29]) rfl rfl rfl dX9_text_63 hs (fun im2 h2 => ?_)
  exact k im2 h2
theorem bX9_text_66 {d : Nat} {b : Nat × Nat} {bo : Bool} {im : XI} {Q : Option Value → XS → XI → Prop} {l1 : Int32} {l2 : Int32}  (hq : Q (some (.int (1 : Int32))) (SC bo) im) : V mX9_text d b 66 [some (.ref 0), some (.int l1), some (.int l2)] [] (SC bo) im Q := by
  refine V.iconst (v := 1) dX9_text_66 (by decide) ?_
  exact V.iret rfl dX9_text_67 hq
theorem bX9_untell_0 {d : Nat} {b : Nat × Nat} {bo : Bool} {im : XI} {Q : Option Value → XS → XI → Prop} {l1 : Int32} {P : Int32 → XI → Prop}  (hs : SpI mX9_isUse d [.int l1] (SC bo) im P) (k : ∀ x2 im2, P x2 im2 → V mX9_untell (d + 1) b 4 [some (.ref 0), some (.int l1), none, none] [.int x2] (SC bo) im2 Q) : V mX9_untell (d + 1) b 0 [some (.ref 0), some (.int l1), none, none] [] (SC bo) im Q := by
  refine V.iload_n dX9_untell_0 rfl rfl ?_
  refine V.cSI rfl vX9_isUse lkX9_161 sX9_isUse (As := [.int l1]) rfl rfl rfl dX9_untell_1 hs (fun x2 im2 h2 => ?_)
  exact k x2 im2 h2
theorem bX9_untell_4 {d : Nat} {b : Nat × Nat} {bo : Bool} {im : XI} {Q : Option Value → XS → XI → Prop} {l1 : Int32} {s0 : Int32}  (kt : ¬ s0 = 0 → V mX9_untell d b 14 [some (.ref 0), some (.int l1), none, none] [] (SC bo) im Q) (kf : s0 = 0 → V mX9_untell d b 7 [some (.ref 0), some (.int l1), none, none] [] (SC bo) im Q) : V mX9_untell d b 4 [some (.ref 0), some (.int l1), none, none] [.int s0] (SC bo) im Q := by
  refine V.if_ne (tgt := 14) dX9_untell_4 (by decide) (fun h => ?_) (fun h => ?_)
  · exact kt h
  · exact kf h
theorem bX9_untell_7 {d : Nat} {b : Nat × Nat} {bo : Bool} {im : XI} {Q : Option Value → XS → XI → Prop} {l1 : Int32} {P : Int32 → XI → Prop}  (hs : SpI mX9_fail d [.ref 0, .int (-1000000001 : Int32)] (SC bo) im P) (k : ∀ x2 im2, P x2 im2 → V mX9_untell (d + 1) b 13 [some (.ref 0), some (.int l1), none, none] [.int x2] (SC bo) im2 Q) : V mX9_untell (d + 1) b 7 [some (.ref 0), some (.int l1), none, none] [] (SC bo) im Q := by
  refine V.aload_n dX9_untell_7 rfl rfl ?_
  refine V.ldc kX9_64 dX9_untell_8 ?_
  refine V.cVI rfl vX9_fail lkX9_65 wX9_fail (ci := 9) rfl (by rfl) (As := [.int (-1000000001 : Int32)]) rfl rfl rfl dX9_untell_10 hs (fun x2 im2 h2 => ?_)
  exact k x2 im2 h2
theorem bX9_untell_13 {d : Nat} {b : Nat × Nat} {bo : Bool} {im : XI} {Q : Option Value → XS → XI → Prop} {l1 : Int32} {s0 : Int32}  (hq : Q (some (.int s0)) (SC bo) im) : V mX9_untell d b 13 [some (.ref 0), some (.int l1), none, none] [.int s0] (SC bo) im Q := by
  exact V.iret rfl dX9_untell_13 hq
theorem bX9_untell_14 {d : Nat} {b : Nat × Nat} {bo : Bool} {im : XI} {Q : Option Value → XS → XI → Prop} {l1 : Int32} {P : Nat → XI → Prop}  (hs : SpR mX2_lawOf d [.ref 1, .int l1] (SC bo) im P) (k : ∀ x2 im2, P x2 im2 → V mX9_untell (d + 1) b 22 [some (.ref 0), some (.int l1), none, none] [.ref x2] (SC bo) im2 Q) : V mX9_untell (d + 1) b 14 [some (.ref 0), some (.int l1), none, none] [] (SC bo) im Q := by
  refine V.aload_n dX9_untell_14 rfl rfl ?_
  refine V.getR fX9_12 rfl (by rfl) (by rfl) dX9_untell_15 ?_
  refine V.iload_n dX9_untell_18 rfl rfl ?_
  refine V.cVR rfl vX2_lawOf lkX9_173 wX2_lawOf (ci := 2) rfl (by rfl) (As := [.int l1]) rfl rfl rfl dX9_untell_19 hs (fun x2 im2 h2 => ?_)
  exact k x2 im2 h2
theorem bX9_untell_22 {d : Nat} {b : Nat × Nat} {bo : Bool} {im : XI} {Q : Option Value → XS → XI → Prop} {l1 : Int32} {s0 : Nat} (g0 : (SC bo).1[s0]? = some (.inl 3)) (kt : (im s0 3) = 0 → V mX9_untell d b 34 [some (.ref 0), some (.int l1), some (.ref s0), none] [] (SC bo) im Q) (kf : ¬ (im s0 3) = 0 → V mX9_untell d b 30 [some (.ref 0), some (.int l1), some (.ref s0), none] [] (SC bo) im Q) : V mX9_untell d b 22 [some (.ref 0), some (.int l1), none, none] [.ref s0] (SC bo) im Q := by
  refine V.astore_n dX9_untell_22 rfl rfl rfl ?_
  refine V.aload_n dX9_untell_23 rfl rfl ?_
  refine V.getI fX9_185 rfl g0 dX9_untell_24 ?_
  refine V.if_eq (tgt := 34) dX9_untell_27 (by decide) (fun h => ?_) (fun h => ?_)
  · exact kt h
  · exact kf h
theorem bX9_untell_30 {d : Nat} {b : Nat × Nat} {bo : Bool} {im : XI} {Q : Option Value → XS → XI → Prop} {l1 : Int32} {l2 : Nat}  (k : V mX9_untell d b 35 [some (.ref 0), some (.int l1), some (.ref l2), none] [.int (1 : Int32)] (SC bo) im Q) : V mX9_untell d b 30 [some (.ref 0), some (.int l1), some (.ref l2), none] [] (SC bo) im Q := by
  refine V.iconst (v := 1) dX9_untell_30 (by decide) ?_
  refine V.goto (tgt := 35) dX9_untell_31 (by decide) ?_
  exact k
theorem bX9_untell_34 {d : Nat} {b : Nat × Nat} {bo : Bool} {im : XI} {Q : Option Value → XS → XI → Prop} {l1 : Int32} {l2 : Nat}  (k : V mX9_untell d b 35 [some (.ref 0), some (.int l1), some (.ref l2), none] [.int (0 : Int32)] (SC bo) im Q) : V mX9_untell d b 34 [some (.ref 0), some (.int l1), some (.ref l2), none] [] (SC bo) im Q := by
  refine V.iconst (v := 0) dX9_untell_34 (by decide) ?_
  exact k
theorem bX9_untell_35 {d : Nat} {b : Nat × Nat} {bo : Bool} {im : XI} {Q : Option Value → XS → XI → Prop} {l1 : Int32} {l2 : Nat} {s0 : Int32} (g0 : (SC bo).1[l2]? = some (.inl 3)) (hq : Q (some (.int s0)) (SC bo) (xup im l2 3 (0 : Int32))) : V mX9_untell d b 35 [some (.ref 0), some (.int l1), some (.ref l2), none] [.int s0] (SC bo) im Q := by
  refine V.istore_n dX9_untell_35 rfl rfl rfl ?_
  refine V.aload_n dX9_untell_36 rfl rfl ?_
  refine V.iconst (v := 0) dX9_untell_37 (by decide) ?_
  refine V.putZ fX9_185 (fun h => by cases h) rfl (by decide) g0 dX9_untell_38 ?_
  refine V.iload_n dX9_untell_41 rfl rfl ?_
  exact V.iret rfl dX9_untell_42 hq
theorem bX9_law_0 {d : Nat} {b : Nat × Nat} {bo : Bool} {im : XI} {Q : Option Value → XS → XI → Prop} {l1 : Int32} {l2 : Int32} {l3 : Int32} {l4 : Int32} {P : Int32 → XI → Prop}  (hs : SpI mX9_isUse d [.int l1] (SC bo) im P) (k : ∀ x2 im2, P x2 im2 → V mX9_law (d + 1) b 4 [some (.ref 0), some (.int l1), some (.int l2), some (.int l3), some (.int l4)] [.int x2] (SC bo) im2 Q) : V mX9_law (d + 1) b 0 [some (.ref 0), some (.int l1), some (.int l2), some (.int l3), some (.int l4)] [] (SC bo) im Q := by
  refine V.iload_n dX9_law_0 rfl rfl ?_
  refine V.cSI rfl vX9_isUse lkX9_161 sX9_isUse (As := [.int l1]) rfl rfl rfl dX9_law_1 hs (fun x2 im2 h2 => ?_)
  exact k x2 im2 h2
theorem bX9_law_4 {d : Nat} {b : Nat × Nat} {bo : Bool} {im : XI} {Q : Option Value → XS → XI → Prop} {l1 : Int32} {l2 : Int32} {l3 : Int32} {l4 : Int32} {s0 : Int32}  (kt : ¬ s0 = 0 → V mX9_law d b 14 [some (.ref 0), some (.int l1), some (.int l2), some (.int l3), some (.int l4)] [] (SC bo) im Q) (kf : s0 = 0 → V mX9_law d b 7 [some (.ref 0), some (.int l1), some (.int l2), some (.int l3), some (.int l4)] [] (SC bo) im Q) : V mX9_law d b 4 [some (.ref 0), some (.int l1), some (.int l2), some (.int l3), some (.int l4)] [.int s0] (SC bo) im Q := by
  refine V.if_ne (tgt := 14) dX9_law_4 (by decide) (fun h => ?_) (fun h => ?_)
  · exact kt h
  · exact kf h
theorem bX9_law_7 {d : Nat} {b : Nat × Nat} {bo : Bool} {im : XI} {Q : Option Value → XS → XI → Prop} {l1 : Int32} {l2 : Int32} {l3 : Int32} {l4 : Int32} {P : Int32 → XI → Prop}  (hs : SpI mX9_fail d [.ref 0, .int (-1000000001 : Int32)] (SC bo) im P) (k : ∀ x2 im2, P x2 im2 → V mX9_law (d + 1) b 13 [some (.ref 0), some (.int l1), some (.int l2), some (.int l3), some (.int l4)] [.int x2] (SC bo) im2 Q) : V mX9_law (d + 1) b 7 [some (.ref 0), some (.int l1), some (.int l2), some (.int l3), some (.int l4)] [] (SC bo) im Q := by
  refine V.aload_n dX9_law_7 rfl rfl ?_
  refine V.ldc kX9_64 dX9_law_8 ?_
  refine V.cVI rfl vX9_fail lkX9_65 wX9_fail (ci := 9) rfl (by rfl) (As := [.int (-1000000001 : Int32)]) rfl rfl rfl dX9_law_10 hs (fun x2 im2 h2 => ?_)
  exact k x2 im2 h2
theorem bX9_law_13 {d : Nat} {b : Nat × Nat} {bo : Bool} {im : XI} {Q : Option Value → XS → XI → Prop} {l1 : Int32} {l2 : Int32} {l3 : Int32} {l4 : Int32} {s0 : Int32}  (hq : Q (some (.int s0)) (SC bo) im) : V mX9_law d b 13 [some (.ref 0), some (.int l1), some (.int l2), some (.int l3), some (.int l4)] [.int s0] (SC bo) im Q := by
  exact V.iret rfl dX9_law_13 hq
theorem bX9_law_14 {d : Nat} {b : Nat × Nat} {bo : Bool} {im : XI} {Q : Option Value → XS → XI → Prop} {l1 : Int32} {l2 : Int32} {l3 : Int32} {l4 : Int32} {P : Nat → XI → Prop}  (hs : SpR mX2_lawOf d [.ref 1, .int l1] (SC bo) im P) (k : ∀ x2 im2, P x2 im2 → V mX9_law (d + 1) b 22 [some (.ref 0), some (.int l1), some (.int l2), some (.int l3), some (.int l4)] [.ref x2] (SC bo) im2 Q) : V mX9_law (d + 1) b 14 [some (.ref 0), some (.int l1), some (.int l2), some (.int l3), some (.int l4)] [] (SC bo) im Q := by
  refine V.aload_n dX9_law_14 rfl rfl ?_
  refine V.getR fX9_12 rfl (by rfl) (by rfl) dX9_law_15 ?_
  refine V.iload_n dX9_law_18 rfl rfl ?_
  refine V.cVR rfl vX2_lawOf lkX9_173 wX2_lawOf (ci := 2) rfl (by rfl) (As := [.int l1]) rfl rfl rfl dX9_law_19 hs (fun x2 im2 h2 => ?_)
  exact k x2 im2 h2
theorem bX9_law_22 {d : Nat} {b : Nat × Nat} {bo : Bool} {im : XI} {Q : Option Value → XS → XI → Prop} {l1 : Int32} {l2 : Int32} {l3 : Int32} {l4 : Int32} {s0 : Nat} {P : Int32 → XI → Prop} (g0 : (SC bo).1[s0]? = some (.inl 3)) (hs : SpI mX3_gives d [.ref s0, .int l2, .int l3, .int l4] (SC bo) im P) (k : ∀ x2 im2, P x2 im2 → V mX9_law (d + 1) b 29 [some (.ref 0), some (.int l1), some (.int l2), some (.int l3), some (.int l4)] [.int x2] (SC bo) im2 Q) : V mX9_law (d + 1) b 22 [some (.ref 0), some (.int l1), some (.int l2), some (.int l3), some (.int l4)] [.ref s0] (SC bo) im Q := by
  refine V.iload_n dX9_law_22 rfl rfl ?_
  refine V.iload_n dX9_law_23 rfl rfl ?_
  refine V.iload dX9_law_24 rfl ?_
  refine V.cVI rfl vX3_gives lkX9_189 wX3_gives (ci := 3) rfl g0 (As := [.int l2, .int l3, .int l4]) rfl rfl rfl dX9_law_26 hs (fun x2 im2 h2 => ?_)
  exact k x2 im2 h2
theorem bX9_law_29 {d : Nat} {b : Nat × Nat} {bo : Bool} {im : XI} {Q : Option Value → XS → XI → Prop} {l1 : Int32} {l2 : Int32} {l3 : Int32} {l4 : Int32} {s0 : Int32}  (hq : Q (some (.int s0)) (SC bo) im) : V mX9_law d b 29 [some (.ref 0), some (.int l1), some (.int l2), some (.int l3), some (.int l4)] [.int s0] (SC bo) im Q := by
  exact V.iret rfl dX9_law_29 hq
theorem bX9_ticks_0 {d : Nat} {b : Nat × Nat} {bo : Bool} {im : XI} {Q : Option Value → XS → XI → Prop} {l1 : Int32} {P : Int32 → XI → Prop}  (hs : SpI mX9_within d [.int l1, .int (1 : Int32), .int (200 : Int32)] (SC bo) im P) (k : ∀ x2 im2, P x2 im2 → V mX9_ticks (d + 1) b 8 [some (.ref 0), some (.int l1), none, none] [.int x2] (SC bo) im2 Q) : V mX9_ticks (d + 1) b 0 [some (.ref 0), some (.int l1), none, none] [] (SC bo) im Q := by
  refine V.iload_n dX9_ticks_0 rfl rfl ?_
  refine V.iconst (v := 1) dX9_ticks_1 (by decide) ?_
  refine V.sipush (v := 200) dX9_ticks_2 (by decide) ?_
  refine V.cSI rfl vX9_within lkX9_93 sX9_within (As := [.int l1, .int (1 : Int32), .int (200 : Int32)]) rfl rfl rfl dX9_ticks_5 hs (fun x2 im2 h2 => ?_)
  exact k x2 im2 h2
theorem bX9_ticks_8 {d : Nat} {b : Nat × Nat} {bo : Bool} {im : XI} {Q : Option Value → XS → XI → Prop} {l1 : Int32} {s0 : Int32}  (kt : ¬ s0 = 0 → V mX9_ticks d b 18 [some (.ref 0), some (.int l1), none, none] [] (SC bo) im Q) (kf : s0 = 0 → V mX9_ticks d b 11 [some (.ref 0), some (.int l1), none, none] [] (SC bo) im Q) : V mX9_ticks d b 8 [some (.ref 0), some (.int l1), none, none] [.int s0] (SC bo) im Q := by
  refine V.if_ne (tgt := 18) dX9_ticks_8 (by decide) (fun h => ?_) (fun h => ?_)
  · exact kt h
  · exact kf h
theorem bX9_ticks_11 {d : Nat} {b : Nat × Nat} {bo : Bool} {im : XI} {Q : Option Value → XS → XI → Prop} {l1 : Int32} {P : Int32 → XI → Prop}  (hs : SpI mX9_fail d [.ref 0, .int (-1000000001 : Int32)] (SC bo) im P) (k : ∀ x2 im2, P x2 im2 → V mX9_ticks (d + 1) b 17 [some (.ref 0), some (.int l1), none, none] [.int x2] (SC bo) im2 Q) : V mX9_ticks (d + 1) b 11 [some (.ref 0), some (.int l1), none, none] [] (SC bo) im Q := by
  refine V.aload_n dX9_ticks_11 rfl rfl ?_
  refine V.ldc kX9_64 dX9_ticks_12 ?_
  refine V.cVI rfl vX9_fail lkX9_65 wX9_fail (ci := 9) rfl (by rfl) (As := [.int (-1000000001 : Int32)]) rfl rfl rfl dX9_ticks_14 hs (fun x2 im2 h2 => ?_)
  exact k x2 im2 h2
theorem bX9_ticks_17 {d : Nat} {b : Nat × Nat} {bo : Bool} {im : XI} {Q : Option Value → XS → XI → Prop} {l1 : Int32} {s0 : Int32}  (hq : Q (some (.int s0)) (SC bo) im) : V mX9_ticks d b 17 [some (.ref 0), some (.int l1), none, none] [.int s0] (SC bo) im Q := by
  exact V.iret rfl dX9_ticks_17 hq
theorem bX9_ticks_18 {d : Nat} {b : Nat × Nat} {bo : Bool} {im : XI} {Q : Option Value → XS → XI → Prop} {l1 : Int32}  (kt : ((im 1 8) + l1) ≤ (99999 : Int32) → V mX9_ticks d b 39 [some (.ref 0), some (.int l1), none, none] [] (SC bo) im Q) (kf : ¬ ((im 1 8) + l1) ≤ (99999 : Int32) → V mX9_ticks d b 32 [some (.ref 0), some (.int l1), none, none] [] (SC bo) im Q) : V mX9_ticks d b 18 [some (.ref 0), some (.int l1), none, none] [] (SC bo) im Q := by
  refine V.aload_n dX9_ticks_18 rfl rfl ?_
  refine V.getR fX9_12 rfl (by rfl) (by rfl) dX9_ticks_19 ?_
  refine V.getI fX9_103 rfl (by rfl) dX9_ticks_22 ?_
  refine V.iload_n dX9_ticks_25 rfl rfl ?_
  refine V.iadd dX9_ticks_26 ?_
  refine V.ldc kX9_193 dX9_ticks_27 ?_
  refine V.icmp_le (tgt := 39) dX9_ticks_29 (by decide) (fun h => ?_) (fun h => ?_)
  · exact kt h
  · exact kf h
theorem bX9_ticks_32 {d : Nat} {b : Nat × Nat} {bo : Bool} {im : XI} {Q : Option Value → XS → XI → Prop} {l1 : Int32} {P : Int32 → XI → Prop}  (hs : SpI mX9_fail d [.ref 0, .int (-1000000003 : Int32)] (SC bo) im P) (k : ∀ x2 im2, P x2 im2 → V mX9_ticks (d + 1) b 38 [some (.ref 0), some (.int l1), none, none] [.int x2] (SC bo) im2 Q) : V mX9_ticks (d + 1) b 32 [some (.ref 0), some (.int l1), none, none] [] (SC bo) im Q := by
  refine V.aload_n dX9_ticks_32 rfl rfl ?_
  refine V.ldc kX9_194 dX9_ticks_33 ?_
  refine V.cVI rfl vX9_fail lkX9_65 wX9_fail (ci := 9) rfl (by rfl) (As := [.int (-1000000003 : Int32)]) rfl rfl rfl dX9_ticks_35 hs (fun x2 im2 h2 => ?_)
  exact k x2 im2 h2
theorem bX9_ticks_38 {d : Nat} {b : Nat × Nat} {bo : Bool} {im : XI} {Q : Option Value → XS → XI → Prop} {l1 : Int32} {s0 : Int32}  (hq : Q (some (.int s0)) (SC bo) im) : V mX9_ticks d b 38 [some (.ref 0), some (.int l1), none, none] [.int s0] (SC bo) im Q := by
  exact V.iret rfl dX9_ticks_38 hq
theorem bX9_ticks_39 {d : Nat} {b : Nat × Nat} {bo : Bool} {im : XI} {Q : Option Value → XS → XI → Prop} {l1 : Int32}  (k : V mX9_ticks d b 43 [some (.ref 0), some (.int l1), some (.int (0 : Int32)), some (.int (0 : Int32))] [] (SC bo) im Q) : V mX9_ticks d b 39 [some (.ref 0), some (.int l1), none, none] [] (SC bo) im Q := by
  refine V.iconst (v := 0) dX9_ticks_39 (by decide) ?_
  refine V.istore_n dX9_ticks_40 rfl rfl rfl ?_
  refine V.iconst (v := 0) dX9_ticks_41 (by decide) ?_
  refine V.istore_n dX9_ticks_42 rfl rfl rfl ?_
  exact k
theorem bX9_ticks_43 {d : Nat} {b : Nat × Nat} {bo : Bool} {im : XI} {Q : Option Value → XS → XI → Prop} {l1 : Int32} {l2 : Int32} {l3 : Int32}  (kt : l1 ≤ l3 → V mX9_ticks d b 64 [some (.ref 0), some (.int l1), some (.int l2), some (.int l3)] [] (SC bo) im Q) (kf : ¬ l1 ≤ l3 → V mX9_ticks d b 48 [some (.ref 0), some (.int l1), some (.int l2), some (.int l3)] [] (SC bo) im Q) : V mX9_ticks d b 43 [some (.ref 0), some (.int l1), some (.int l2), some (.int l3)] [] (SC bo) im Q := by
  refine V.iload_n dX9_ticks_43 rfl rfl ?_
  refine V.iload_n dX9_ticks_44 rfl rfl ?_
  refine V.icmp_ge (tgt := 64) dX9_ticks_45 (by decide) (fun h => ?_) (fun h => ?_)
  · exact kt h
  · exact kf h
theorem bX9_ticks_48 {d : Nat} {b : Nat × Nat} {bo : Bool} {im : XI} {Q : Option Value → XS → XI → Prop} {l1 : Int32} {l2 : Int32} {l3 : Int32} {P : Int32 → XI → Prop}  (hs : SpI mX2_goBy d [.ref 1] (SC bo) im P) (k : ∀ x2 im2, P x2 im2 → V mX9_ticks (d + 1) b 56 [some (.ref 0), some (.int l1), some (.int l2), some (.int l3)] [.int x2, .int l2] (SC bo) im2 Q) : V mX9_ticks (d + 1) b 48 [some (.ref 0), some (.int l1), some (.int l2), some (.int l3)] [] (SC bo) im Q := by
  refine V.iload_n dX9_ticks_48 rfl rfl ?_
  refine V.aload_n dX9_ticks_49 rfl rfl ?_
  refine V.getR fX9_12 rfl (by rfl) (by rfl) dX9_ticks_50 ?_
  refine V.cVI rfl vX2_goBy lkX9_195 wX2_goBy (ci := 2) rfl (by rfl) (As := []) rfl rfl rfl dX9_ticks_53 hs (fun x2 im2 h2 => ?_)
  exact k x2 im2 h2
theorem bX9_ticks_56 {d : Nat} {b : Nat × Nat} {bo : Bool} {im : XI} {Q : Option Value → XS → XI → Prop} {l1 : Int32} {l2 : Int32} {l3 : Int32} {s0 : Int32} {s1 : Int32}  (k : V mX9_ticks d b 43 [some (.ref 0), some (.int l1), some (.int (s0 + s1)), some (.int (l3 + (1 : Int32)))] [] (SC bo) im Q) : V mX9_ticks d b 56 [some (.ref 0), some (.int l1), some (.int l2), some (.int l3)] [.int s1, .int s0] (SC bo) im Q := by
  refine V.iadd dX9_ticks_56 ?_
  refine V.istore_n dX9_ticks_57 rfl rfl rfl ?_
  refine V.iinc (v := (l3 + (1 : Int32))) dX9_ticks_58 rfl rfl rfl ?_
  refine V.goto (tgt := 43) dX9_ticks_61 (by decide) ?_
  exact k
theorem bX9_ticks_64 {d : Nat} {b : Nat × Nat} {bo : Bool} {im : XI} {Q : Option Value → XS → XI → Prop} {l1 : Int32} {l2 : Int32} {l3 : Int32}  (hq : Q (some (.int l2)) (SC bo) im) : V mX9_ticks d b 64 [some (.ref 0), some (.int l1), some (.int l2), some (.int l3)] [] (SC bo) im Q := by
  refine V.iload_n dX9_ticks_64 rfl rfl ?_
  exact V.iret rfl dX9_ticks_65 hq
theorem bX9_loose_0 {d : Nat} {b : Nat × Nat} {bo : Bool} {im : XI} {Q : Option Value → XS → XI → Prop} {l1 : Int32} {P : Int32 → XI → Prop}  (hs : SpI mX9_within d [.int l1, .int (1 : Int32), .int (30 : Int32)] (SC bo) im P) (k : ∀ x2 im2, P x2 im2 → V mX9_loose (d + 1) b 7 [some (.ref 0), some (.int l1), none, none] [.int x2] (SC bo) im2 Q) : V mX9_loose (d + 1) b 0 [some (.ref 0), some (.int l1), none, none] [] (SC bo) im Q := by
  refine V.iload_n dX9_loose_0 rfl rfl ?_
  refine V.iconst (v := 1) dX9_loose_1 (by decide) ?_
  refine V.bipush (v := 30) dX9_loose_2 (by decide) ?_
  refine V.cSI rfl vX9_within lkX9_93 sX9_within (As := [.int l1, .int (1 : Int32), .int (30 : Int32)]) rfl rfl rfl dX9_loose_4 hs (fun x2 im2 h2 => ?_)
  exact k x2 im2 h2
theorem bX9_loose_7 {d : Nat} {b : Nat × Nat} {bo : Bool} {im : XI} {Q : Option Value → XS → XI → Prop} {l1 : Int32} {s0 : Int32}  (kt : ¬ s0 = 0 → V mX9_loose d b 17 [some (.ref 0), some (.int l1), none, none] [] (SC bo) im Q) (kf : s0 = 0 → V mX9_loose d b 10 [some (.ref 0), some (.int l1), none, none] [] (SC bo) im Q) : V mX9_loose d b 7 [some (.ref 0), some (.int l1), none, none] [.int s0] (SC bo) im Q := by
  refine V.if_ne (tgt := 17) dX9_loose_7 (by decide) (fun h => ?_) (fun h => ?_)
  · exact kt h
  · exact kf h
theorem bX9_loose_10 {d : Nat} {b : Nat × Nat} {bo : Bool} {im : XI} {Q : Option Value → XS → XI → Prop} {l1 : Int32} {P : Int32 → XI → Prop}  (hs : SpI mX9_fail d [.ref 0, .int (-1000000001 : Int32)] (SC bo) im P) (k : ∀ x2 im2, P x2 im2 → V mX9_loose (d + 1) b 16 [some (.ref 0), some (.int l1), none, none] [.int x2] (SC bo) im2 Q) : V mX9_loose (d + 1) b 10 [some (.ref 0), some (.int l1), none, none] [] (SC bo) im Q := by
  refine V.aload_n dX9_loose_10 rfl rfl ?_
  refine V.ldc kX9_64 dX9_loose_11 ?_
  refine V.cVI rfl vX9_fail lkX9_65 wX9_fail (ci := 9) rfl (by rfl) (As := [.int (-1000000001 : Int32)]) rfl rfl rfl dX9_loose_13 hs (fun x2 im2 h2 => ?_)
  exact k x2 im2 h2
theorem bX9_loose_16 {d : Nat} {b : Nat × Nat} {bo : Bool} {im : XI} {Q : Option Value → XS → XI → Prop} {l1 : Int32} {s0 : Int32}  (hq : Q (some (.int s0)) (SC bo) im) : V mX9_loose d b 16 [some (.ref 0), some (.int l1), none, none] [.int s0] (SC bo) im Q := by
  exact V.iret rfl dX9_loose_16 hq
theorem bX9_loose_17 {d : Nat} {b : Nat × Nat} {bo : Bool} {im : XI} {Q : Option Value → XS → XI → Prop} {l1 : Int32}  (kt : ((im 1 8) + l1) ≤ (99999 : Int32) → V mX9_loose d b 38 [some (.ref 0), some (.int l1), none, none] [] (SC bo) im Q) (kf : ¬ ((im 1 8) + l1) ≤ (99999 : Int32) → V mX9_loose d b 31 [some (.ref 0), some (.int l1), none, none] [] (SC bo) im Q) : V mX9_loose d b 17 [some (.ref 0), some (.int l1), none, none] [] (SC bo) im Q := by
  refine V.aload_n dX9_loose_17 rfl rfl ?_
  refine V.getR fX9_12 rfl (by rfl) (by rfl) dX9_loose_18 ?_
  refine V.getI fX9_103 rfl (by rfl) dX9_loose_21 ?_
  refine V.iload_n dX9_loose_24 rfl rfl ?_
  refine V.iadd dX9_loose_25 ?_
  refine V.ldc kX9_193 dX9_loose_26 ?_
  refine V.icmp_le (tgt := 38) dX9_loose_28 (by decide) (fun h => ?_) (fun h => ?_)
  · exact kt h
  · exact kf h
theorem bX9_loose_31 {d : Nat} {b : Nat × Nat} {bo : Bool} {im : XI} {Q : Option Value → XS → XI → Prop} {l1 : Int32} {P : Int32 → XI → Prop}  (hs : SpI mX9_fail d [.ref 0, .int (-1000000003 : Int32)] (SC bo) im P) (k : ∀ x2 im2, P x2 im2 → V mX9_loose (d + 1) b 37 [some (.ref 0), some (.int l1), none, none] [.int x2] (SC bo) im2 Q) : V mX9_loose (d + 1) b 31 [some (.ref 0), some (.int l1), none, none] [] (SC bo) im Q := by
  refine V.aload_n dX9_loose_31 rfl rfl ?_
  refine V.ldc kX9_194 dX9_loose_32 ?_
  refine V.cVI rfl vX9_fail lkX9_65 wX9_fail (ci := 9) rfl (by rfl) (As := [.int (-1000000003 : Int32)]) rfl rfl rfl dX9_loose_34 hs (fun x2 im2 h2 => ?_)
  exact k x2 im2 h2
theorem bX9_loose_37 {d : Nat} {b : Nat × Nat} {bo : Bool} {im : XI} {Q : Option Value → XS → XI → Prop} {l1 : Int32} {s0 : Int32}  (hq : Q (some (.int s0)) (SC bo) im) : V mX9_loose d b 37 [some (.ref 0), some (.int l1), none, none] [.int s0] (SC bo) im Q := by
  exact V.iret rfl dX9_loose_37 hq
theorem bX9_loose_38 {d : Nat} {b : Nat × Nat} {bo : Bool} {im : XI} {Q : Option Value → XS → XI → Prop} {l1 : Int32}  (k : V mX9_loose d b 42 [some (.ref 0), some (.int l1), some (.int (0 : Int32)), some (.int (0 : Int32))] [] (SC bo) im Q) : V mX9_loose d b 38 [some (.ref 0), some (.int l1), none, none] [] (SC bo) im Q := by
  refine V.iconst (v := 0) dX9_loose_38 (by decide) ?_
  refine V.istore_n dX9_loose_39 rfl rfl rfl ?_
  refine V.iconst (v := 0) dX9_loose_40 (by decide) ?_
  refine V.istore_n dX9_loose_41 rfl rfl rfl ?_
  exact k
theorem bX9_loose_42 {d : Nat} {b : Nat × Nat} {bo : Bool} {im : XI} {Q : Option Value → XS → XI → Prop} {l1 : Int32} {l2 : Int32} {l3 : Int32}  (kt : l1 ≤ l3 → V mX9_loose d b 70 [some (.ref 0), some (.int l1), some (.int l2), some (.int l3)] [] (SC bo) im Q) (kf : ¬ l1 ≤ l3 → V mX9_loose d b 47 [some (.ref 0), some (.int l1), some (.int l2), some (.int l3)] [] (SC bo) im Q) : V mX9_loose d b 42 [some (.ref 0), some (.int l1), some (.int l2), some (.int l3)] [] (SC bo) im Q := by
  refine V.iload_n dX9_loose_42 rfl rfl ?_
  refine V.iload_n dX9_loose_43 rfl rfl ?_
  refine V.icmp_ge (tgt := 70) dX9_loose_44 (by decide) (fun h => ?_) (fun h => ?_)
  · exact kt h
  · exact kf h
theorem bX9_loose_47 {d : Nat} {b : Nat × Nat} {bo : Bool} {im : XI} {Q : Option Value → XS → XI → Prop} {l1 : Int32} {l2 : Int32} {l3 : Int32} {P : XI → Prop}  (hs : SpV mX2_drawPhase d [.ref 1] (SC bo) im P) (k : ∀ im2, P im2 → V mX9_loose (d + 1) b 54 [some (.ref 0), some (.int l1), some (.int l2), some (.int l3)] [] (SC bo) im2 Q) : V mX9_loose (d + 1) b 47 [some (.ref 0), some (.int l1), some (.int l2), some (.int l3)] [] (SC bo) im Q := by
  refine V.aload_n dX9_loose_47 rfl rfl ?_
  refine V.getR fX9_12 rfl (by rfl) (by rfl) dX9_loose_48 ?_
  refine V.cVV rfl vX2_drawPhase lkX9_198 wX2_drawPhase (ci := 2) rfl (by rfl) (As := []) rfl rfl rfl dX9_loose_51 hs (fun im2 h2 => ?_)
  exact k im2 h2
theorem bX9_loose_54 {d : Nat} {b : Nat × Nat} {bo : Bool} {im : XI} {Q : Option Value → XS → XI → Prop} {l1 : Int32} {l2 : Int32} {l3 : Int32} {P : Int32 → XI → Prop}  (hs : SpI mX2_goBy d [.ref 1] (SC bo) im P) (k : ∀ x2 im2, P x2 im2 → V mX9_loose (d + 1) b 62 [some (.ref 0), some (.int l1), some (.int l2), some (.int l3)] [.int x2, .int l2] (SC bo) im2 Q) : V mX9_loose (d + 1) b 54 [some (.ref 0), some (.int l1), some (.int l2), some (.int l3)] [] (SC bo) im Q := by
  refine V.iload_n dX9_loose_54 rfl rfl ?_
  refine V.aload_n dX9_loose_55 rfl rfl ?_
  refine V.getR fX9_12 rfl (by rfl) (by rfl) dX9_loose_56 ?_
  refine V.cVI rfl vX2_goBy lkX9_195 wX2_goBy (ci := 2) rfl (by rfl) (As := []) rfl rfl rfl dX9_loose_59 hs (fun x2 im2 h2 => ?_)
  exact k x2 im2 h2
theorem bX9_loose_62 {d : Nat} {b : Nat × Nat} {bo : Bool} {im : XI} {Q : Option Value → XS → XI → Prop} {l1 : Int32} {l2 : Int32} {l3 : Int32} {s0 : Int32} {s1 : Int32}  (k : V mX9_loose d b 42 [some (.ref 0), some (.int l1), some (.int (s0 + s1)), some (.int (l3 + (1 : Int32)))] [] (SC bo) im Q) : V mX9_loose d b 62 [some (.ref 0), some (.int l1), some (.int l2), some (.int l3)] [.int s1, .int s0] (SC bo) im Q := by
  refine V.iadd dX9_loose_62 ?_
  refine V.istore_n dX9_loose_63 rfl rfl rfl ?_
  refine V.iinc (v := (l3 + (1 : Int32))) dX9_loose_64 rfl rfl rfl ?_
  refine V.goto (tgt := 42) dX9_loose_67 (by decide) ?_
  exact k
theorem bX9_loose_70 {d : Nat} {b : Nat × Nat} {bo : Bool} {im : XI} {Q : Option Value → XS → XI → Prop} {l1 : Int32} {l2 : Int32} {l3 : Int32}  (hq : Q (some (.int l2)) (SC bo) im) : V mX9_loose d b 70 [some (.ref 0), some (.int l1), some (.int l2), some (.int l3)] [] (SC bo) im Q := by
  refine V.iload_n dX9_loose_70 rfl rfl ?_
  exact V.iret rfl dX9_loose_71 hq
theorem bX9_tick_0 {d : Nat} {b : Nat × Nat} {bo : Bool} {im : XI} {Q : Option Value → XS → XI → Prop} {l1 : Int32} {P : Int32 → XI → Prop}  (hs : SpI mX9_within d [.int l1, .int (0 : Int32), .int (99999 : Int32)] (SC bo) im P) (k : ∀ x2 im2, P x2 im2 → V mX9_tick (d + 1) b 7 [some (.ref 0), some (.int l1), none] [.int x2] (SC bo) im2 Q) : V mX9_tick (d + 1) b 0 [some (.ref 0), some (.int l1), none] [] (SC bo) im Q := by
  refine V.iload_n dX9_tick_0 rfl rfl ?_
  refine V.iconst (v := 0) dX9_tick_1 (by decide) ?_
  refine V.ldc kX9_193 dX9_tick_2 ?_
  refine V.cSI rfl vX9_within lkX9_93 sX9_within (As := [.int l1, .int (0 : Int32), .int (99999 : Int32)]) rfl rfl rfl dX9_tick_4 hs (fun x2 im2 h2 => ?_)
  exact k x2 im2 h2
theorem bX9_tick_7 {d : Nat} {b : Nat × Nat} {bo : Bool} {im : XI} {Q : Option Value → XS → XI → Prop} {l1 : Int32} {s0 : Int32}  (kt : ¬ s0 = 0 → V mX9_tick d b 17 [some (.ref 0), some (.int l1), none] [] (SC bo) im Q) (kf : s0 = 0 → V mX9_tick d b 10 [some (.ref 0), some (.int l1), none] [] (SC bo) im Q) : V mX9_tick d b 7 [some (.ref 0), some (.int l1), none] [.int s0] (SC bo) im Q := by
  refine V.if_ne (tgt := 17) dX9_tick_7 (by decide) (fun h => ?_) (fun h => ?_)
  · exact kt h
  · exact kf h
theorem bX9_tick_10 {d : Nat} {b : Nat × Nat} {bo : Bool} {im : XI} {Q : Option Value → XS → XI → Prop} {l1 : Int32} {P : Int32 → XI → Prop}  (hs : SpI mX9_fail d [.ref 0, .int (-1000000001 : Int32)] (SC bo) im P) (k : ∀ x2 im2, P x2 im2 → V mX9_tick (d + 1) b 16 [some (.ref 0), some (.int l1), none] [.int x2] (SC bo) im2 Q) : V mX9_tick (d + 1) b 10 [some (.ref 0), some (.int l1), none] [] (SC bo) im Q := by
  refine V.aload_n dX9_tick_10 rfl rfl ?_
  refine V.ldc kX9_64 dX9_tick_11 ?_
  refine V.cVI rfl vX9_fail lkX9_65 wX9_fail (ci := 9) rfl (by rfl) (As := [.int (-1000000001 : Int32)]) rfl rfl rfl dX9_tick_13 hs (fun x2 im2 h2 => ?_)
  exact k x2 im2 h2
theorem bX9_tick_16 {d : Nat} {b : Nat × Nat} {bo : Bool} {im : XI} {Q : Option Value → XS → XI → Prop} {l1 : Int32} {s0 : Int32}  (hq : Q (some (.int s0)) (SC bo) im) : V mX9_tick d b 16 [some (.ref 0), some (.int l1), none] [.int s0] (SC bo) im Q := by
  exact V.iret rfl dX9_tick_16 hq
theorem bX9_tick_17 {d : Nat} {b : Nat × Nat} {bo : Bool} {im : XI} {Q : Option Value → XS → XI → Prop} {l1 : Int32}  (hq : Q (some (.int (im 1 8))) (SC bo) (xup im 1 8 l1)) : V mX9_tick d b 17 [some (.ref 0), some (.int l1), none] [] (SC bo) im Q := by
  refine V.aload_n dX9_tick_17 rfl rfl ?_
  refine V.getR fX9_12 rfl (by rfl) (by rfl) dX9_tick_18 ?_
  refine V.getI fX9_103 rfl (by rfl) dX9_tick_21 ?_
  refine V.istore_n dX9_tick_24 rfl rfl rfl ?_
  refine V.aload_n dX9_tick_25 rfl rfl ?_
  refine V.getR fX9_12 rfl (by rfl) (by rfl) dX9_tick_26 ?_
  refine V.iload_n dX9_tick_29 rfl rfl ?_
  refine V.putI fX9_103 (fun h => by cases h) rfl (by rfl) dX9_tick_30 ?_
  refine V.iload_n dX9_tick_33 rfl rfl ?_
  exact V.iret rfl dX9_tick_34 hq
theorem bX9_seed_0 {d : Nat} {b : Nat × Nat} {bo : Bool} {im : XI} {Q : Option Value → XS → XI → Prop} {l1 : Int32}  (hq : Q (some (.int (im 1 9))) (SC bo) (xup im 1 9 l1)) : V mX9_seed d b 0 [some (.ref 0), some (.int l1), none] [] (SC bo) im Q := by
  refine V.aload_n dX9_seed_0 rfl rfl ?_
  refine V.getR fX9_12 rfl (by rfl) (by rfl) dX9_seed_1 ?_
  refine V.getI fX9_201 rfl (by rfl) dX9_seed_4 ?_
  refine V.istore_n dX9_seed_7 rfl rfl rfl ?_
  refine V.aload_n dX9_seed_8 rfl rfl ?_
  refine V.getR fX9_12 rfl (by rfl) (by rfl) dX9_seed_9 ?_
  refine V.iload_n dX9_seed_12 rfl rfl ?_
  refine V.putI fX9_201 (fun h => by cases h) rfl (by rfl) dX9_seed_13 ?_
  refine V.iload_n dX9_seed_16 rfl rfl ?_
  exact V.iret rfl dX9_seed_17 hq
theorem bX9_then_0 {d : Nat} {b : Nat × Nat} {bo : Bool} {im : XI} {Q : Option Value → XS → XI → Prop} {l1 : Int32} {l2 : Int32} {P : Int32 → XI → Prop}  (hs : SpI mX2_hasDoing d [.ref 1, .int l1] (SC bo) im P) (k : ∀ x2 im2, P x2 im2 → V mX9_then (d + 1) b 8 [some (.ref 0), some (.int l1), some (.int l2)] [.int x2] (SC bo) im2 Q) : V mX9_then (d + 1) b 0 [some (.ref 0), some (.int l1), some (.int l2)] [] (SC bo) im Q := by
  refine V.aload_n dX9_then_0 rfl rfl ?_
  refine V.getR fX9_12 rfl (by rfl) (by rfl) dX9_then_1 ?_
  refine V.iload_n dX9_then_4 rfl rfl ?_
  refine V.cVI rfl vX2_hasDoing lkX9_140 wX2_hasDoing (ci := 2) rfl (by rfl) (As := [.int l1]) rfl rfl rfl dX9_then_5 hs (fun x2 im2 h2 => ?_)
  exact k x2 im2 h2
theorem bX9_then_8 {d : Nat} {b : Nat × Nat} {bo : Bool} {im : XI} {Q : Option Value → XS → XI → Prop} {l1 : Int32} {l2 : Int32} {s0 : Int32}  (kt : s0 = 0 → V mX9_then d b 22 [some (.ref 0), some (.int l1), some (.int l2)] [] (SC bo) im Q) (kf : ¬ s0 = 0 → V mX9_then d b 11 [some (.ref 0), some (.int l1), some (.int l2)] [] (SC bo) im Q) : V mX9_then d b 8 [some (.ref 0), some (.int l1), some (.int l2)] [.int s0] (SC bo) im Q := by
  refine V.if_eq (tgt := 22) dX9_then_8 (by decide) (fun h => ?_) (fun h => ?_)
  · exact kt h
  · exact kf h
theorem bX9_then_11 {d : Nat} {b : Nat × Nat} {bo : Bool} {im : XI} {Q : Option Value → XS → XI → Prop} {l1 : Int32} {l2 : Int32} {P : Int32 → XI → Prop}  (hs : SpI mX9_within d [.int l2, .int (0 : Int32), .int (200 : Int32)] (SC bo) im P) (k : ∀ x2 im2, P x2 im2 → V mX9_then (d + 1) b 19 [some (.ref 0), some (.int l1), some (.int l2)] [.int x2] (SC bo) im2 Q) : V mX9_then (d + 1) b 11 [some (.ref 0), some (.int l1), some (.int l2)] [] (SC bo) im Q := by
  refine V.iload_n dX9_then_11 rfl rfl ?_
  refine V.iconst (v := 0) dX9_then_12 (by decide) ?_
  refine V.sipush (v := 200) dX9_then_13 (by decide) ?_
  refine V.cSI rfl vX9_within lkX9_93 sX9_within (As := [.int l2, .int (0 : Int32), .int (200 : Int32)]) rfl rfl rfl dX9_then_16 hs (fun x2 im2 h2 => ?_)
  exact k x2 im2 h2
theorem bX9_then_19 {d : Nat} {b : Nat × Nat} {bo : Bool} {im : XI} {Q : Option Value → XS → XI → Prop} {l1 : Int32} {l2 : Int32} {s0 : Int32}  (kt : ¬ s0 = 0 → V mX9_then d b 29 [some (.ref 0), some (.int l1), some (.int l2)] [] (SC bo) im Q) (kf : s0 = 0 → V mX9_then d b 22 [some (.ref 0), some (.int l1), some (.int l2)] [] (SC bo) im Q) : V mX9_then d b 19 [some (.ref 0), some (.int l1), some (.int l2)] [.int s0] (SC bo) im Q := by
  refine V.if_ne (tgt := 29) dX9_then_19 (by decide) (fun h => ?_) (fun h => ?_)
  · exact kt h
  · exact kf h
theorem bX9_then_22 {d : Nat} {b : Nat × Nat} {bo : Bool} {im : XI} {Q : Option Value → XS → XI → Prop} {l1 : Int32} {l2 : Int32} {P : Int32 → XI → Prop}  (hs : SpI mX9_fail d [.ref 0, .int (-1000000001 : Int32)] (SC bo) im P) (k : ∀ x2 im2, P x2 im2 → V mX9_then (d + 1) b 28 [some (.ref 0), some (.int l1), some (.int l2)] [.int x2] (SC bo) im2 Q) : V mX9_then (d + 1) b 22 [some (.ref 0), some (.int l1), some (.int l2)] [] (SC bo) im Q := by
  refine V.aload_n dX9_then_22 rfl rfl ?_
  refine V.ldc kX9_64 dX9_then_23 ?_
  refine V.cVI rfl vX9_fail lkX9_65 wX9_fail (ci := 9) rfl (by rfl) (As := [.int (-1000000001 : Int32)]) rfl rfl rfl dX9_then_25 hs (fun x2 im2 h2 => ?_)
  exact k x2 im2 h2
theorem bX9_then_28 {d : Nat} {b : Nat × Nat} {bo : Bool} {im : XI} {Q : Option Value → XS → XI → Prop} {l1 : Int32} {l2 : Int32} {s0 : Int32}  (hq : Q (some (.int s0)) (SC bo) im) : V mX9_then d b 28 [some (.ref 0), some (.int l1), some (.int l2)] [.int s0] (SC bo) im Q := by
  exact V.iret rfl dX9_then_28 hq
theorem bX9_then_29 {d : Nat} {b : Nat × Nat} {bo : Bool} {im : XI} {Q : Option Value → XS → XI → Prop} {l1 : Int32} {l2 : Int32} {i1 : Nat} {P : Int32 → XI → Prop} (g0 : l1 = nI i1) (g1 : i1 < 6) (hs : SpI mX1_partsBehind d [.ref 31, .ref (22 + i1), .int l2] (SC bo) im P) (k : ∀ x2 im2, P x2 im2 → V mX9_then (d + 1) b 46 [some (.ref 0), some (.int l1), some (.int l2)] [.int x2] (SC bo) im2 Q) : V mX9_then (d + 1) b 29 [some (.ref 0), some (.int l1), some (.int l2)] [] (SC bo) im Q := by
  refine V.aload_n dX9_then_29 rfl rfl ?_
  refine V.getR fX9_34 rfl (by rfl) (by rfl) dX9_then_30 ?_
  refine V.aload_n dX9_then_33 rfl rfl ?_
  refine V.getR fX9_12 rfl (by rfl) (by rfl) dX9_then_34 ?_
  refine V.getR fX9_125 rfl (by rfl) (by rfl) dX9_then_37 ?_
  refine V.iload_n dX9_then_40 rfl rfl ?_
  refine V.aald (i := i1) ⟨by rfl, by rfl, by rfl⟩ g0 g1 (xdoings g1) dX9_then_41 ?_
  refine V.iload_n dX9_then_42 rfl rfl ?_
  refine V.cVI rfl vX1_partsBehind lkX9_204 wX1_partsBehind (ci := 1) rfl (by rfl) (As := [.ref (22 + i1), .int l2]) rfl rfl rfl dX9_then_43 hs (fun x2 im2 h2 => ?_)
  exact k x2 im2 h2
theorem bX9_then_46 {d : Nat} {b : Nat × Nat} {bo : Bool} {im : XI} {Q : Option Value → XS → XI → Prop} {l1 : Int32} {l2 : Int32} {s0 : Int32}  (hq : Q (some (.int s0)) (SC bo) im) : V mX9_then d b 46 [some (.ref 0), some (.int l1), some (.int l2)] [.int s0] (SC bo) im Q := by
  exact V.iret rfl dX9_then_46 hq
theorem bX9_soonest_0 {d : Nat} {b : Nat × Nat} {bo : Bool} {im : XI} {Q : Option Value → XS → XI → Prop} {l1 : Int32} {P : Int32 → XI → Prop}  (hs : SpI mX2_hasDoing d [.ref 1, .int l1] (SC bo) im P) (k : ∀ x2 im2, P x2 im2 → V mX9_soonest (d + 1) b 8 [some (.ref 0), some (.int l1), none] [.int x2] (SC bo) im2 Q) : V mX9_soonest (d + 1) b 0 [some (.ref 0), some (.int l1), none] [] (SC bo) im Q := by
  refine V.aload_n dX9_soonest_0 rfl rfl ?_
  refine V.getR fX9_12 rfl (by rfl) (by rfl) dX9_soonest_1 ?_
  refine V.iload_n dX9_soonest_4 rfl rfl ?_
  refine V.cVI rfl vX2_hasDoing lkX9_140 wX2_hasDoing (ci := 2) rfl (by rfl) (As := [.int l1]) rfl rfl rfl dX9_soonest_5 hs (fun x2 im2 h2 => ?_)
  exact k x2 im2 h2
theorem bX9_soonest_8 {d : Nat} {b : Nat × Nat} {bo : Bool} {im : XI} {Q : Option Value → XS → XI → Prop} {l1 : Int32} {s0 : Int32}  (kt : ¬ s0 = 0 → V mX9_soonest d b 18 [some (.ref 0), some (.int l1), none] [] (SC bo) im Q) (kf : s0 = 0 → V mX9_soonest d b 11 [some (.ref 0), some (.int l1), none] [] (SC bo) im Q) : V mX9_soonest d b 8 [some (.ref 0), some (.int l1), none] [.int s0] (SC bo) im Q := by
  refine V.if_ne (tgt := 18) dX9_soonest_8 (by decide) (fun h => ?_) (fun h => ?_)
  · exact kt h
  · exact kf h
theorem bX9_soonest_11 {d : Nat} {b : Nat × Nat} {bo : Bool} {im : XI} {Q : Option Value → XS → XI → Prop} {l1 : Int32} {P : Int32 → XI → Prop}  (hs : SpI mX9_fail d [.ref 0, .int (-1000000001 : Int32)] (SC bo) im P) (k : ∀ x2 im2, P x2 im2 → V mX9_soonest (d + 1) b 17 [some (.ref 0), some (.int l1), none] [.int x2] (SC bo) im2 Q) : V mX9_soonest (d + 1) b 11 [some (.ref 0), some (.int l1), none] [] (SC bo) im Q := by
  refine V.aload_n dX9_soonest_11 rfl rfl ?_
  refine V.ldc kX9_64 dX9_soonest_12 ?_
  refine V.cVI rfl vX9_fail lkX9_65 wX9_fail (ci := 9) rfl (by rfl) (As := [.int (-1000000001 : Int32)]) rfl rfl rfl dX9_soonest_14 hs (fun x2 im2 h2 => ?_)
  exact k x2 im2 h2
theorem bX9_soonest_17 {d : Nat} {b : Nat × Nat} {bo : Bool} {im : XI} {Q : Option Value → XS → XI → Prop} {l1 : Int32} {s0 : Int32}  (hq : Q (some (.int s0)) (SC bo) im) : V mX9_soonest d b 17 [some (.ref 0), some (.int l1), none] [.int s0] (SC bo) im Q := by
  exact V.iret rfl dX9_soonest_17 hq
theorem bX9_soonest_18 {d : Nat} {b : Nat × Nat} {bo : Bool} {im : XI} {Q : Option Value → XS → XI → Prop} {l1 : Int32} {i1 : Nat} {P : Int32 → XI → Prop} (g0 : l1 = nI i1) (g1 : i1 < 6) (hs : SpI mX1_soonestDone d [.ref 31, .ref (22 + i1)] (SC bo) im P) (k : ∀ x2 im2, P x2 im2 → V mX9_soonest (d + 1) b 34 [some (.ref 0), some (.int l1), none] [.int x2] (SC bo) im2 Q) : V mX9_soonest (d + 1) b 18 [some (.ref 0), some (.int l1), none] [] (SC bo) im Q := by
  refine V.aload_n dX9_soonest_18 rfl rfl ?_
  refine V.getR fX9_34 rfl (by rfl) (by rfl) dX9_soonest_19 ?_
  refine V.aload_n dX9_soonest_22 rfl rfl ?_
  refine V.getR fX9_12 rfl (by rfl) (by rfl) dX9_soonest_23 ?_
  refine V.getR fX9_125 rfl (by rfl) (by rfl) dX9_soonest_26 ?_
  refine V.iload_n dX9_soonest_29 rfl rfl ?_
  refine V.aald (i := i1) ⟨by rfl, by rfl, by rfl⟩ g0 g1 (xdoings g1) dX9_soonest_30 ?_
  refine V.cVI rfl vX1_soonestDone lkX9_208 wX1_soonestDone (ci := 1) rfl (by rfl) (As := [.ref (22 + i1)]) rfl rfl rfl dX9_soonest_31 hs (fun x2 im2 h2 => ?_)
  exact k x2 im2 h2
theorem bX9_soonest_34 {d : Nat} {b : Nat × Nat} {bo : Bool} {im : XI} {Q : Option Value → XS → XI → Prop} {l1 : Int32} {s0 : Int32}  (kt : 0 ≤ s0 → V mX9_soonest d b 48 [some (.ref 0), some (.int l1), some (.int s0)] [] (SC bo) im Q) (kf : ¬ 0 ≤ s0 → V mX9_soonest d b 39 [some (.ref 0), some (.int l1), some (.int s0)] [] (SC bo) im Q) : V mX9_soonest d b 34 [some (.ref 0), some (.int l1), none] [.int s0] (SC bo) im Q := by
  refine V.istore_n dX9_soonest_34 rfl rfl rfl ?_
  refine V.iload_n dX9_soonest_35 rfl rfl ?_
  refine V.if_ge (tgt := 48) dX9_soonest_36 (by decide) (fun h => ?_) (fun h => ?_)
  · exact kt h
  · exact kf h
theorem bX9_soonest_39 {d : Nat} {b : Nat × Nat} {bo : Bool} {im : XI} {Q : Option Value → XS → XI → Prop} {l1 : Int32} {l2 : Int32} {P : Int32 → XI → Prop}  (hs : SpI mX9_fail d [.ref 0, .int (-1000000002 : Int32)] (SC bo) im P) (k : ∀ x2 im2, P x2 im2 → V mX9_soonest (d + 1) b 45 [some (.ref 0), some (.int l1), some (.int l2)] [.int x2] (SC bo) im2 Q) : V mX9_soonest (d + 1) b 39 [some (.ref 0), some (.int l1), some (.int l2)] [] (SC bo) im Q := by
  refine V.aload_n dX9_soonest_39 rfl rfl ?_
  refine V.ldc kX9_212 dX9_soonest_40 ?_
  refine V.cVI rfl vX9_fail lkX9_65 wX9_fail (ci := 9) rfl (by rfl) (As := [.int (-1000000002 : Int32)]) rfl rfl rfl dX9_soonest_42 hs (fun x2 im2 h2 => ?_)
  exact k x2 im2 h2
theorem bX9_soonest_45 {d : Nat} {b : Nat × Nat} {bo : Bool} {im : XI} {Q : Option Value → XS → XI → Prop} {l1 : Int32} {l2 : Int32} {s0 : Int32}  (k : V mX9_soonest d b 49 [some (.ref 0), some (.int l1), some (.int l2)] [.int s0] (SC bo) im Q) : V mX9_soonest d b 45 [some (.ref 0), some (.int l1), some (.int l2)] [.int s0] (SC bo) im Q := by
  refine V.goto (tgt := 49) dX9_soonest_45 (by decide) ?_
  exact k
theorem bX9_soonest_48 {d : Nat} {b : Nat × Nat} {bo : Bool} {im : XI} {Q : Option Value → XS → XI → Prop} {l1 : Int32} {l2 : Int32}  (k : V mX9_soonest d b 49 [some (.ref 0), some (.int l1), some (.int l2)] [.int l2] (SC bo) im Q) : V mX9_soonest d b 48 [some (.ref 0), some (.int l1), some (.int l2)] [] (SC bo) im Q := by
  refine V.iload_n dX9_soonest_48 rfl rfl ?_
  exact k
theorem bX9_soonest_49 {d : Nat} {b : Nat × Nat} {bo : Bool} {im : XI} {Q : Option Value → XS → XI → Prop} {l1 : Int32} {l2 : Int32} {s0 : Int32}  (hq : Q (some (.int s0)) (SC bo) im) : V mX9_soonest d b 49 [some (.ref 0), some (.int l1), some (.int l2)] [.int s0] (SC bo) im Q := by
  exact V.iret rfl dX9_soonest_49 hq
theorem bX9_moment_0 {d : Nat} {b : Nat × Nat} {bo : Bool} {im : XI} {Q : Option Value → XS → XI → Prop} {l1 : Int32} {P : Int32 → XI → Prop}  (hs : SpI mX2_hasSet d [.ref 1, .int l1] (SC bo) im P) (k : ∀ x2 im2, P x2 im2 → V mX9_moment (d + 1) b 8 [some (.ref 0), some (.int l1), none] [.int x2] (SC bo) im2 Q) : V mX9_moment (d + 1) b 0 [some (.ref 0), some (.int l1), none] [] (SC bo) im Q := by
  refine V.aload_n dX9_moment_0 rfl rfl ?_
  refine V.getR fX9_12 rfl (by rfl) (by rfl) dX9_moment_1 ?_
  refine V.iload_n dX9_moment_4 rfl rfl ?_
  refine V.cVI rfl vX2_hasSet lkX9_116 wX2_hasSet (ci := 2) rfl (by rfl) (As := [.int l1]) rfl rfl rfl dX9_moment_5 hs (fun x2 im2 h2 => ?_)
  exact k x2 im2 h2
theorem bX9_moment_8 {d : Nat} {b : Nat × Nat} {bo : Bool} {im : XI} {Q : Option Value → XS → XI → Prop} {l1 : Int32} {s0 : Int32}  (kt : ¬ s0 = 0 → V mX9_moment d b 18 [some (.ref 0), some (.int l1), none] [] (SC bo) im Q) (kf : s0 = 0 → V mX9_moment d b 11 [some (.ref 0), some (.int l1), none] [] (SC bo) im Q) : V mX9_moment d b 8 [some (.ref 0), some (.int l1), none] [.int s0] (SC bo) im Q := by
  refine V.if_ne (tgt := 18) dX9_moment_8 (by decide) (fun h => ?_) (fun h => ?_)
  · exact kt h
  · exact kf h
theorem bX9_moment_11 {d : Nat} {b : Nat × Nat} {bo : Bool} {im : XI} {Q : Option Value → XS → XI → Prop} {l1 : Int32} {P : Int32 → XI → Prop}  (hs : SpI mX9_fail d [.ref 0, .int (-1000000001 : Int32)] (SC bo) im P) (k : ∀ x2 im2, P x2 im2 → V mX9_moment (d + 1) b 17 [some (.ref 0), some (.int l1), none] [.int x2] (SC bo) im2 Q) : V mX9_moment (d + 1) b 11 [some (.ref 0), some (.int l1), none] [] (SC bo) im Q := by
  refine V.aload_n dX9_moment_11 rfl rfl ?_
  refine V.ldc kX9_64 dX9_moment_12 ?_
  refine V.cVI rfl vX9_fail lkX9_65 wX9_fail (ci := 9) rfl (by rfl) (As := [.int (-1000000001 : Int32)]) rfl rfl rfl dX9_moment_14 hs (fun x2 im2 h2 => ?_)
  exact k x2 im2 h2
theorem bX9_moment_17 {d : Nat} {b : Nat × Nat} {bo : Bool} {im : XI} {Q : Option Value → XS → XI → Prop} {l1 : Int32} {s0 : Int32}  (hq : Q (some (.int s0)) (SC bo) im) : V mX9_moment d b 17 [some (.ref 0), some (.int l1), none] [.int s0] (SC bo) im Q := by
  exact V.iret rfl dX9_moment_17 hq
theorem bX9_moment_18 {d : Nat} {b : Nat × Nat} {bo : Bool} {im : XI} {Q : Option Value → XS → XI → Prop} {l1 : Int32} {P : Int32 → XI → Prop}  (hs : SpI mX1_firstMoment d [.ref 31, .int l1] (SC bo) im P) (k : ∀ x2 im2, P x2 im2 → V mX9_moment (d + 1) b 26 [some (.ref 0), some (.int l1), none] [.int x2] (SC bo) im2 Q) : V mX9_moment (d + 1) b 18 [some (.ref 0), some (.int l1), none] [] (SC bo) im Q := by
  refine V.aload_n dX9_moment_18 rfl rfl ?_
  refine V.getR fX9_34 rfl (by rfl) (by rfl) dX9_moment_19 ?_
  refine V.iload_n dX9_moment_22 rfl rfl ?_
  refine V.cVI rfl vX1_firstMoment lkX9_213 wX1_firstMoment (ci := 1) rfl (by rfl) (As := [.int l1]) rfl rfl rfl dX9_moment_23 hs (fun x2 im2 h2 => ?_)
  exact k x2 im2 h2
theorem bX9_moment_26 {d : Nat} {b : Nat × Nat} {bo : Bool} {im : XI} {Q : Option Value → XS → XI → Prop} {l1 : Int32} {s0 : Int32}  (kt : 0 ≤ s0 → V mX9_moment d b 40 [some (.ref 0), some (.int l1), some (.int s0)] [] (SC bo) im Q) (kf : ¬ 0 ≤ s0 → V mX9_moment d b 31 [some (.ref 0), some (.int l1), some (.int s0)] [] (SC bo) im Q) : V mX9_moment d b 26 [some (.ref 0), some (.int l1), none] [.int s0] (SC bo) im Q := by
  refine V.istore_n dX9_moment_26 rfl rfl rfl ?_
  refine V.iload_n dX9_moment_27 rfl rfl ?_
  refine V.if_ge (tgt := 40) dX9_moment_28 (by decide) (fun h => ?_) (fun h => ?_)
  · exact kt h
  · exact kf h
theorem bX9_moment_31 {d : Nat} {b : Nat × Nat} {bo : Bool} {im : XI} {Q : Option Value → XS → XI → Prop} {l1 : Int32} {l2 : Int32} {P : Int32 → XI → Prop}  (hs : SpI mX9_fail d [.ref 0, .int (-1000000002 : Int32)] (SC bo) im P) (k : ∀ x2 im2, P x2 im2 → V mX9_moment (d + 1) b 37 [some (.ref 0), some (.int l1), some (.int l2)] [.int x2] (SC bo) im2 Q) : V mX9_moment (d + 1) b 31 [some (.ref 0), some (.int l1), some (.int l2)] [] (SC bo) im Q := by
  refine V.aload_n dX9_moment_31 rfl rfl ?_
  refine V.ldc kX9_212 dX9_moment_32 ?_
  refine V.cVI rfl vX9_fail lkX9_65 wX9_fail (ci := 9) rfl (by rfl) (As := [.int (-1000000002 : Int32)]) rfl rfl rfl dX9_moment_34 hs (fun x2 im2 h2 => ?_)
  exact k x2 im2 h2
theorem bX9_moment_37 {d : Nat} {b : Nat × Nat} {bo : Bool} {im : XI} {Q : Option Value → XS → XI → Prop} {l1 : Int32} {l2 : Int32} {s0 : Int32}  (k : V mX9_moment d b 41 [some (.ref 0), some (.int l1), some (.int l2)] [.int s0] (SC bo) im Q) : V mX9_moment d b 37 [some (.ref 0), some (.int l1), some (.int l2)] [.int s0] (SC bo) im Q := by
  refine V.goto (tgt := 41) dX9_moment_37 (by decide) ?_
  exact k
theorem bX9_moment_40 {d : Nat} {b : Nat × Nat} {bo : Bool} {im : XI} {Q : Option Value → XS → XI → Prop} {l1 : Int32} {l2 : Int32}  (k : V mX9_moment d b 41 [some (.ref 0), some (.int l1), some (.int l2)] [.int l2] (SC bo) im Q) : V mX9_moment d b 40 [some (.ref 0), some (.int l1), some (.int l2)] [] (SC bo) im Q := by
  refine V.iload_n dX9_moment_40 rfl rfl ?_
  exact k
theorem bX9_moment_41 {d : Nat} {b : Nat × Nat} {bo : Bool} {im : XI} {Q : Option Value → XS → XI → Prop} {l1 : Int32} {l2 : Int32} {s0 : Int32}  (hq : Q (some (.int s0)) (SC bo) im) : V mX9_moment d b 41 [some (.ref 0), some (.int l1), some (.int l2)] [.int s0] (SC bo) im Q := by
  exact V.iret rfl dX9_moment_41 hq
theorem bX9_moments_0 {d : Nat} {b : Nat × Nat} {bo : Bool} {im : XI} {Q : Option Value → XS → XI → Prop} {l1 : Int32} {l2 : Int32} {P : Int32 → XI → Prop}  (hs : SpI mX2_hasSet d [.ref 1, .int l1] (SC bo) im P) (k : ∀ x2 im2, P x2 im2 → V mX9_moments (d + 1) b 8 [some (.ref 0), some (.int l1), some (.int l2)] [.int x2] (SC bo) im2 Q) : V mX9_moments (d + 1) b 0 [some (.ref 0), some (.int l1), some (.int l2)] [] (SC bo) im Q := by
  refine V.aload_n dX9_moments_0 rfl rfl ?_
  refine V.getR fX9_12 rfl (by rfl) (by rfl) dX9_moments_1 ?_
  refine V.iload_n dX9_moments_4 rfl rfl ?_
  refine V.cVI rfl vX2_hasSet lkX9_116 wX2_hasSet (ci := 2) rfl (by rfl) (As := [.int l1]) rfl rfl rfl dX9_moments_5 hs (fun x2 im2 h2 => ?_)
  exact k x2 im2 h2
theorem bX9_moments_8 {d : Nat} {b : Nat × Nat} {bo : Bool} {im : XI} {Q : Option Value → XS → XI → Prop} {l1 : Int32} {l2 : Int32} {s0 : Int32}  (kt : s0 = 0 → V mX9_moments d b 21 [some (.ref 0), some (.int l1), some (.int l2)] [] (SC bo) im Q) (kf : ¬ s0 = 0 → V mX9_moments d b 11 [some (.ref 0), some (.int l1), some (.int l2)] [] (SC bo) im Q) : V mX9_moments d b 8 [some (.ref 0), some (.int l1), some (.int l2)] [.int s0] (SC bo) im Q := by
  refine V.if_eq (tgt := 21) dX9_moments_8 (by decide) (fun h => ?_) (fun h => ?_)
  · exact kt h
  · exact kf h
theorem bX9_moments_11 {d : Nat} {b : Nat × Nat} {bo : Bool} {im : XI} {Q : Option Value → XS → XI → Prop} {l1 : Int32} {l2 : Int32} {P : Int32 → XI → Prop}  (hs : SpI mX9_within d [.int l2, .int (0 : Int32), .int (99 : Int32)] (SC bo) im P) (k : ∀ x2 im2, P x2 im2 → V mX9_moments (d + 1) b 18 [some (.ref 0), some (.int l1), some (.int l2)] [.int x2] (SC bo) im2 Q) : V mX9_moments (d + 1) b 11 [some (.ref 0), some (.int l1), some (.int l2)] [] (SC bo) im Q := by
  refine V.iload_n dX9_moments_11 rfl rfl ?_
  refine V.iconst (v := 0) dX9_moments_12 (by decide) ?_
  refine V.bipush (v := 99) dX9_moments_13 (by decide) ?_
  refine V.cSI rfl vX9_within lkX9_93 sX9_within (As := [.int l2, .int (0 : Int32), .int (99 : Int32)]) rfl rfl rfl dX9_moments_15 hs (fun x2 im2 h2 => ?_)
  exact k x2 im2 h2
theorem bX9_moments_18 {d : Nat} {b : Nat × Nat} {bo : Bool} {im : XI} {Q : Option Value → XS → XI → Prop} {l1 : Int32} {l2 : Int32} {s0 : Int32}  (kt : ¬ s0 = 0 → V mX9_moments d b 28 [some (.ref 0), some (.int l1), some (.int l2)] [] (SC bo) im Q) (kf : s0 = 0 → V mX9_moments d b 21 [some (.ref 0), some (.int l1), some (.int l2)] [] (SC bo) im Q) : V mX9_moments d b 18 [some (.ref 0), some (.int l1), some (.int l2)] [.int s0] (SC bo) im Q := by
  refine V.if_ne (tgt := 28) dX9_moments_18 (by decide) (fun h => ?_) (fun h => ?_)
  · exact kt h
  · exact kf h
theorem bX9_moments_21 {d : Nat} {b : Nat × Nat} {bo : Bool} {im : XI} {Q : Option Value → XS → XI → Prop} {l1 : Int32} {l2 : Int32} {P : Int32 → XI → Prop}  (hs : SpI mX9_fail d [.ref 0, .int (-1000000001 : Int32)] (SC bo) im P) (k : ∀ x2 im2, P x2 im2 → V mX9_moments (d + 1) b 27 [some (.ref 0), some (.int l1), some (.int l2)] [.int x2] (SC bo) im2 Q) : V mX9_moments (d + 1) b 21 [some (.ref 0), some (.int l1), some (.int l2)] [] (SC bo) im Q := by
  refine V.aload_n dX9_moments_21 rfl rfl ?_
  refine V.ldc kX9_64 dX9_moments_22 ?_
  refine V.cVI rfl vX9_fail lkX9_65 wX9_fail (ci := 9) rfl (by rfl) (As := [.int (-1000000001 : Int32)]) rfl rfl rfl dX9_moments_24 hs (fun x2 im2 h2 => ?_)
  exact k x2 im2 h2
theorem bX9_moments_27 {d : Nat} {b : Nat × Nat} {bo : Bool} {im : XI} {Q : Option Value → XS → XI → Prop} {l1 : Int32} {l2 : Int32} {s0 : Int32}  (hq : Q (some (.int s0)) (SC bo) im) : V mX9_moments d b 27 [some (.ref 0), some (.int l1), some (.int l2)] [.int s0] (SC bo) im Q := by
  exact V.iret rfl dX9_moments_27 hq
theorem bX9_moments_28 {d : Nat} {b : Nat × Nat} {bo : Bool} {im : XI} {Q : Option Value → XS → XI → Prop} {l1 : Int32} {l2 : Int32} {P : Int32 → XI → Prop}  (hs : SpI mX1_momentsAmong d [.ref 31, .int l1, .int l2] (SC bo) im P) (k : ∀ x2 im2, P x2 im2 → V mX9_moments (d + 1) b 37 [some (.ref 0), some (.int l1), some (.int l2)] [.int x2] (SC bo) im2 Q) : V mX9_moments (d + 1) b 28 [some (.ref 0), some (.int l1), some (.int l2)] [] (SC bo) im Q := by
  refine V.aload_n dX9_moments_28 rfl rfl ?_
  refine V.getR fX9_34 rfl (by rfl) (by rfl) dX9_moments_29 ?_
  refine V.iload_n dX9_moments_32 rfl rfl ?_
  refine V.iload_n dX9_moments_33 rfl rfl ?_
  refine V.cVI rfl vX1_momentsAmong lkX9_216 wX1_momentsAmong (ci := 1) rfl (by rfl) (As := [.int l1, .int l2]) rfl rfl rfl dX9_moments_34 hs (fun x2 im2 h2 => ?_)
  exact k x2 im2 h2
theorem bX9_moments_37 {d : Nat} {b : Nat × Nat} {bo : Bool} {im : XI} {Q : Option Value → XS → XI → Prop} {l1 : Int32} {l2 : Int32} {s0 : Int32}  (hq : Q (some (.int s0)) (SC bo) im) : V mX9_moments d b 37 [some (.ref 0), some (.int l1), some (.int l2)] [.int s0] (SC bo) im Q := by
  exact V.iret rfl dX9_moments_37 hq
theorem bX9_away_0 {d : Nat} {b : Nat × Nat} {bo : Bool} {im : XI} {Q : Option Value → XS → XI → Prop} {l1 : Int32} {l2 : Int32} {l3 : Int32} {P : Int32 → XI → Prop}  (hs : SpI mX2_hasDoing d [.ref 1, .int l1] (SC bo) im P) (k : ∀ x2 im2, P x2 im2 → V mX9_away (d + 1) b 8 [some (.ref 0), some (.int l1), some (.int l2), some (.int l3), none] [.int x2] (SC bo) im2 Q) : V mX9_away (d + 1) b 0 [some (.ref 0), some (.int l1), some (.int l2), some (.int l3), none] [] (SC bo) im Q := by
  refine V.aload_n dX9_away_0 rfl rfl ?_
  refine V.getR fX9_12 rfl (by rfl) (by rfl) dX9_away_1 ?_
  refine V.iload_n dX9_away_4 rfl rfl ?_
  refine V.cVI rfl vX2_hasDoing lkX9_140 wX2_hasDoing (ci := 2) rfl (by rfl) (As := [.int l1]) rfl rfl rfl dX9_away_5 hs (fun x2 im2 h2 => ?_)
  exact k x2 im2 h2
theorem bX9_away_8 {d : Nat} {b : Nat × Nat} {bo : Bool} {im : XI} {Q : Option Value → XS → XI → Prop} {l1 : Int32} {l2 : Int32} {l3 : Int32} {s0 : Int32}  (kt : s0 = 0 → V mX9_away d b 30 [some (.ref 0), some (.int l1), some (.int l2), some (.int l3), none] [] (SC bo) im Q) (kf : ¬ s0 = 0 → V mX9_away d b 11 [some (.ref 0), some (.int l1), some (.int l2), some (.int l3), none] [] (SC bo) im Q) : V mX9_away d b 8 [some (.ref 0), some (.int l1), some (.int l2), some (.int l3), none] [.int s0] (SC bo) im Q := by
  refine V.if_eq (tgt := 30) dX9_away_8 (by decide) (fun h => ?_) (fun h => ?_)
  · exact kt h
  · exact kf h
theorem bX9_away_11 {d : Nat} {b : Nat × Nat} {bo : Bool} {im : XI} {Q : Option Value → XS → XI → Prop} {l1 : Int32} {l2 : Int32} {l3 : Int32} {P : Int32 → XI → Prop}  (hs : SpI mX9_within d [.int l2, .int (0 : Int32), .int (99 : Int32)] (SC bo) im P) (k : ∀ x2 im2, P x2 im2 → V mX9_away (d + 1) b 18 [some (.ref 0), some (.int l1), some (.int l2), some (.int l3), none] [.int x2] (SC bo) im2 Q) : V mX9_away (d + 1) b 11 [some (.ref 0), some (.int l1), some (.int l2), some (.int l3), none] [] (SC bo) im Q := by
  refine V.iload_n dX9_away_11 rfl rfl ?_
  refine V.iconst (v := 0) dX9_away_12 (by decide) ?_
  refine V.bipush (v := 99) dX9_away_13 (by decide) ?_
  refine V.cSI rfl vX9_within lkX9_93 sX9_within (As := [.int l2, .int (0 : Int32), .int (99 : Int32)]) rfl rfl rfl dX9_away_15 hs (fun x2 im2 h2 => ?_)
  exact k x2 im2 h2
theorem bX9_away_18 {d : Nat} {b : Nat × Nat} {bo : Bool} {im : XI} {Q : Option Value → XS → XI → Prop} {l1 : Int32} {l2 : Int32} {l3 : Int32} {s0 : Int32}  (kt : s0 = 0 → V mX9_away d b 30 [some (.ref 0), some (.int l1), some (.int l2), some (.int l3), none] [] (SC bo) im Q) (kf : ¬ s0 = 0 → V mX9_away d b 21 [some (.ref 0), some (.int l1), some (.int l2), some (.int l3), none] [] (SC bo) im Q) : V mX9_away d b 18 [some (.ref 0), some (.int l1), some (.int l2), some (.int l3), none] [.int s0] (SC bo) im Q := by
  refine V.if_eq (tgt := 30) dX9_away_18 (by decide) (fun h => ?_) (fun h => ?_)
  · exact kt h
  · exact kf h
theorem bX9_away_21 {d : Nat} {b : Nat × Nat} {bo : Bool} {im : XI} {Q : Option Value → XS → XI → Prop} {l1 : Int32} {l2 : Int32} {l3 : Int32} {P : Int32 → XI → Prop}  (hs : SpI mX9_within d [.int l3, .int (0 : Int32), .int (1 : Int32)] (SC bo) im P) (k : ∀ x2 im2, P x2 im2 → V mX9_away (d + 1) b 27 [some (.ref 0), some (.int l1), some (.int l2), some (.int l3), none] [.int x2] (SC bo) im2 Q) : V mX9_away (d + 1) b 21 [some (.ref 0), some (.int l1), some (.int l2), some (.int l3), none] [] (SC bo) im Q := by
  refine V.iload_n dX9_away_21 rfl rfl ?_
  refine V.iconst (v := 0) dX9_away_22 (by decide) ?_
  refine V.iconst (v := 1) dX9_away_23 (by decide) ?_
  refine V.cSI rfl vX9_within lkX9_93 sX9_within (As := [.int l3, .int (0 : Int32), .int (1 : Int32)]) rfl rfl rfl dX9_away_24 hs (fun x2 im2 h2 => ?_)
  exact k x2 im2 h2
theorem bX9_away_27 {d : Nat} {b : Nat × Nat} {bo : Bool} {im : XI} {Q : Option Value → XS → XI → Prop} {l1 : Int32} {l2 : Int32} {l3 : Int32} {s0 : Int32}  (kt : ¬ s0 = 0 → V mX9_away d b 37 [some (.ref 0), some (.int l1), some (.int l2), some (.int l3), none] [] (SC bo) im Q) (kf : s0 = 0 → V mX9_away d b 30 [some (.ref 0), some (.int l1), some (.int l2), some (.int l3), none] [] (SC bo) im Q) : V mX9_away d b 27 [some (.ref 0), some (.int l1), some (.int l2), some (.int l3), none] [.int s0] (SC bo) im Q := by
  refine V.if_ne (tgt := 37) dX9_away_27 (by decide) (fun h => ?_) (fun h => ?_)
  · exact kt h
  · exact kf h
theorem bX9_away_30 {d : Nat} {b : Nat × Nat} {bo : Bool} {im : XI} {Q : Option Value → XS → XI → Prop} {l1 : Int32} {l2 : Int32} {l3 : Int32} {P : Int32 → XI → Prop}  (hs : SpI mX9_fail d [.ref 0, .int (-1000000001 : Int32)] (SC bo) im P) (k : ∀ x2 im2, P x2 im2 → V mX9_away (d + 1) b 36 [some (.ref 0), some (.int l1), some (.int l2), some (.int l3), none] [.int x2] (SC bo) im2 Q) : V mX9_away (d + 1) b 30 [some (.ref 0), some (.int l1), some (.int l2), some (.int l3), none] [] (SC bo) im Q := by
  refine V.aload_n dX9_away_30 rfl rfl ?_
  refine V.ldc kX9_64 dX9_away_31 ?_
  refine V.cVI rfl vX9_fail lkX9_65 wX9_fail (ci := 9) rfl (by rfl) (As := [.int (-1000000001 : Int32)]) rfl rfl rfl dX9_away_33 hs (fun x2 im2 h2 => ?_)
  exact k x2 im2 h2
theorem bX9_away_36 {d : Nat} {b : Nat × Nat} {bo : Bool} {im : XI} {Q : Option Value → XS → XI → Prop} {l1 : Int32} {l2 : Int32} {l3 : Int32} {s0 : Int32}  (hq : Q (some (.int s0)) (SC bo) im) : V mX9_away d b 36 [some (.ref 0), some (.int l1), some (.int l2), some (.int l3), none] [.int s0] (SC bo) im Q := by
  exact V.iret rfl dX9_away_36 hq
theorem bX9_away_37 {d : Nat} {b : Nat × Nat} {bo : Bool} {im : XI} {Q : Option Value → XS → XI → Prop} {l1 : Int32} {l2 : Int32} {l3 : Int32} {i1 : Nat} {P : Int32 → XI → Prop} (g0 : l1 = nI i1) (g1 : i1 < 6) (hs : SpI mX1_fewestAway d [.ref 31, .ref (22 + i1), .int l2] (SC bo) im P) (k : ∀ x2 im2, P x2 im2 → V mX9_away (d + 1) b 54 [some (.ref 0), some (.int l1), some (.int l2), some (.int l3), none] [.int x2] (SC bo) im2 Q) : V mX9_away (d + 1) b 37 [some (.ref 0), some (.int l1), some (.int l2), some (.int l3), none] [] (SC bo) im Q := by
  refine V.aload_n dX9_away_37 rfl rfl ?_
  refine V.getR fX9_34 rfl (by rfl) (by rfl) dX9_away_38 ?_
  refine V.aload_n dX9_away_41 rfl rfl ?_
  refine V.getR fX9_12 rfl (by rfl) (by rfl) dX9_away_42 ?_
  refine V.getR fX9_125 rfl (by rfl) (by rfl) dX9_away_45 ?_
  refine V.iload_n dX9_away_48 rfl rfl ?_
  refine V.aald (i := i1) ⟨by rfl, by rfl, by rfl⟩ g0 g1 (xdoings g1) dX9_away_49 ?_
  refine V.iload_n dX9_away_50 rfl rfl ?_
  refine V.cVI rfl vX1_fewestAway lkX9_220 wX1_fewestAway (ci := 1) rfl (by rfl) (As := [.ref (22 + i1), .int l2]) rfl rfl rfl dX9_away_51 hs (fun x2 im2 h2 => ?_)
  exact k x2 im2 h2
theorem bX9_away_54 {d : Nat} {b : Nat × Nat} {bo : Bool} {im : XI} {Q : Option Value → XS → XI → Prop} {l1 : Int32} {l2 : Int32} {l3 : Int32} {s0 : Int32}  (kt : 0 ≤ s0 → V mX9_away d b 68 [some (.ref 0), some (.int l1), some (.int l2), some (.int l3), some (.int s0)] [] (SC bo) im Q) (kf : ¬ 0 ≤ s0 → V mX9_away d b 61 [some (.ref 0), some (.int l1), some (.int l2), some (.int l3), some (.int s0)] [] (SC bo) im Q) : V mX9_away d b 54 [some (.ref 0), some (.int l1), some (.int l2), some (.int l3), none] [.int s0] (SC bo) im Q := by
  refine V.istore dX9_away_54 rfl rfl ?_
  refine V.iload dX9_away_56 rfl ?_
  refine V.if_ge (tgt := 68) dX9_away_58 (by decide) (fun h => ?_) (fun h => ?_)
  · exact kt h
  · exact kf h
theorem bX9_away_61 {d : Nat} {b : Nat × Nat} {bo : Bool} {im : XI} {Q : Option Value → XS → XI → Prop} {l1 : Int32} {l2 : Int32} {l3 : Int32} {l4 : Int32} {P : Int32 → XI → Prop}  (hs : SpI mX9_fail d [.ref 0, .int (-1000000002 : Int32)] (SC bo) im P) (k : ∀ x2 im2, P x2 im2 → V mX9_away (d + 1) b 67 [some (.ref 0), some (.int l1), some (.int l2), some (.int l3), some (.int l4)] [.int x2] (SC bo) im2 Q) : V mX9_away (d + 1) b 61 [some (.ref 0), some (.int l1), some (.int l2), some (.int l3), some (.int l4)] [] (SC bo) im Q := by
  refine V.aload_n dX9_away_61 rfl rfl ?_
  refine V.ldc kX9_212 dX9_away_62 ?_
  refine V.cVI rfl vX9_fail lkX9_65 wX9_fail (ci := 9) rfl (by rfl) (As := [.int (-1000000002 : Int32)]) rfl rfl rfl dX9_away_64 hs (fun x2 im2 h2 => ?_)
  exact k x2 im2 h2
theorem bX9_away_67 {d : Nat} {b : Nat × Nat} {bo : Bool} {im : XI} {Q : Option Value → XS → XI → Prop} {l1 : Int32} {l2 : Int32} {l3 : Int32} {l4 : Int32} {s0 : Int32}  (hq : Q (some (.int s0)) (SC bo) im) : V mX9_away d b 67 [some (.ref 0), some (.int l1), some (.int l2), some (.int l3), some (.int l4)] [.int s0] (SC bo) im Q := by
  exact V.iret rfl dX9_away_67 hq
theorem bX9_away_68 {d : Nat} {b : Nat × Nat} {bo : Bool} {im : XI} {Q : Option Value → XS → XI → Prop} {l1 : Int32} {l2 : Int32} {l3 : Int32} {l4 : Int32}  (kt : ¬ l3 = 0 → V mX9_away d b 80 [some (.ref 0), some (.int l1), some (.int l2), some (.int l3), some (.int l4)] [] (SC bo) im Q) (kf : l3 = 0 → V mX9_away d b 72 [some (.ref 0), some (.int l1), some (.int l2), some (.int l3), some (.int l4)] [] (SC bo) im Q) : V mX9_away d b 68 [some (.ref 0), some (.int l1), some (.int l2), some (.int l3), some (.int l4)] [] (SC bo) im Q := by
  refine V.iload_n dX9_away_68 rfl rfl ?_
  refine V.if_ne (tgt := 80) dX9_away_69 (by decide) (fun h => ?_) (fun h => ?_)
  · exact kt h
  · exact kf h
theorem bX9_away_72 {d : Nat} {b : Nat × Nat} {bo : Bool} {im : XI} {Q : Option Value → XS → XI → Prop} {l1 : Int32} {l2 : Int32} {l3 : Int32} {l4 : Int32} {P : Int32 → XI → Prop}  (hs : SpI mJ6_bitCount_0f7a4 d [.int l4] (SC bo) im P) (k : ∀ x2 im2, P x2 im2 → V mX9_away (d + 1) b 77 [some (.ref 0), some (.int l1), some (.int l2), some (.int l3), some (.int l4)] [.int x2] (SC bo) im2 Q) : V mX9_away (d + 1) b 72 [some (.ref 0), some (.int l1), some (.int l2), some (.int l3), some (.int l4)] [] (SC bo) im Q := by
  refine V.iload dX9_away_72 rfl ?_
  refine V.cSI rfl vJ6_bitCount_0f7a4 lkX9_223 sJ6_bitCount_0f7a4 (As := [.int l4]) rfl rfl rfl dX9_away_74 hs (fun x2 im2 h2 => ?_)
  exact k x2 im2 h2
theorem bX9_away_77 {d : Nat} {b : Nat × Nat} {bo : Bool} {im : XI} {Q : Option Value → XS → XI → Prop} {l1 : Int32} {l2 : Int32} {l3 : Int32} {l4 : Int32} {s0 : Int32}  (k : V mX9_away d b 82 [some (.ref 0), some (.int l1), some (.int l2), some (.int l3), some (.int l4)] [.int s0] (SC bo) im Q) : V mX9_away d b 77 [some (.ref 0), some (.int l1), some (.int l2), some (.int l3), some (.int l4)] [.int s0] (SC bo) im Q := by
  refine V.goto (tgt := 82) dX9_away_77 (by decide) ?_
  exact k
theorem bX9_away_80 {d : Nat} {b : Nat × Nat} {bo : Bool} {im : XI} {Q : Option Value → XS → XI → Prop} {l1 : Int32} {l2 : Int32} {l3 : Int32} {l4 : Int32}  (k : V mX9_away d b 82 [some (.ref 0), some (.int l1), some (.int l2), some (.int l3), some (.int l4)] [.int l4] (SC bo) im Q) : V mX9_away d b 80 [some (.ref 0), some (.int l1), some (.int l2), some (.int l3), some (.int l4)] [] (SC bo) im Q := by
  refine V.iload dX9_away_80 rfl ?_
  exact k
theorem bX9_away_82 {d : Nat} {b : Nat × Nat} {bo : Bool} {im : XI} {Q : Option Value → XS → XI → Prop} {l1 : Int32} {l2 : Int32} {l3 : Int32} {l4 : Int32} {s0 : Int32}  (hq : Q (some (.int s0)) (SC bo) im) : V mX9_away d b 82 [some (.ref 0), some (.int l1), some (.int l2), some (.int l3), some (.int l4)] [.int s0] (SC bo) im Q := by
  exact V.iret rfl dX9_away_82 hq
theorem bX9_phaseFor_0 {d : Nat} {b : Nat × Nat} {bo : Bool} {im : XI} {Q : Option Value → XS → XI → Prop} {l1 : Int32} {l2 : Int32} {l3 : Int32} {P : Int32 → XI → Prop}  (hs : SpI mX2_hasPerson d [.ref 1, .int l1] (SC bo) im P) (k : ∀ x2 im2, P x2 im2 → V mX9_phaseFor (d + 1) b 8 [some (.ref 0), some (.int l1), some (.int l2), some (.int l3)] [.int x2] (SC bo) im2 Q) : V mX9_phaseFor (d + 1) b 0 [some (.ref 0), some (.int l1), some (.int l2), some (.int l3)] [] (SC bo) im Q := by
  refine V.aload_n dX9_phaseFor_0 rfl rfl ?_
  refine V.getR fX9_12 rfl (by rfl) (by rfl) dX9_phaseFor_1 ?_
  refine V.iload_n dX9_phaseFor_4 rfl rfl ?_
  refine V.cVI rfl vX2_hasPerson lkX9_90 wX2_hasPerson (ci := 2) rfl (by rfl) (As := [.int l1]) rfl rfl rfl dX9_phaseFor_5 hs (fun x2 im2 h2 => ?_)
  exact k x2 im2 h2
theorem bX9_phaseFor_8 {d : Nat} {b : Nat × Nat} {bo : Bool} {im : XI} {Q : Option Value → XS → XI → Prop} {l1 : Int32} {l2 : Int32} {l3 : Int32} {s0 : Int32}  (kt : s0 = 0 → V mX9_phaseFor d b 31 [some (.ref 0), some (.int l1), some (.int l2), some (.int l3)] [] (SC bo) im Q) (kf : ¬ s0 = 0 → V mX9_phaseFor d b 11 [some (.ref 0), some (.int l1), some (.int l2), some (.int l3)] [] (SC bo) im Q) : V mX9_phaseFor d b 8 [some (.ref 0), some (.int l1), some (.int l2), some (.int l3)] [.int s0] (SC bo) im Q := by
  refine V.if_eq (tgt := 31) dX9_phaseFor_8 (by decide) (fun h => ?_) (fun h => ?_)
  · exact kt h
  · exact kf h
theorem bX9_phaseFor_11 {d : Nat} {b : Nat × Nat} {bo : Bool} {im : XI} {Q : Option Value → XS → XI → Prop} {l1 : Int32} {l2 : Int32} {l3 : Int32} {P : Int32 → XI → Prop}  (hs : SpI mX2_hasDoing d [.ref 1, .int l2] (SC bo) im P) (k : ∀ x2 im2, P x2 im2 → V mX9_phaseFor (d + 1) b 19 [some (.ref 0), some (.int l1), some (.int l2), some (.int l3)] [.int x2] (SC bo) im2 Q) : V mX9_phaseFor (d + 1) b 11 [some (.ref 0), some (.int l1), some (.int l2), some (.int l3)] [] (SC bo) im Q := by
  refine V.aload_n dX9_phaseFor_11 rfl rfl ?_
  refine V.getR fX9_12 rfl (by rfl) (by rfl) dX9_phaseFor_12 ?_
  refine V.iload_n dX9_phaseFor_15 rfl rfl ?_
  refine V.cVI rfl vX2_hasDoing lkX9_140 wX2_hasDoing (ci := 2) rfl (by rfl) (As := [.int l2]) rfl rfl rfl dX9_phaseFor_16 hs (fun x2 im2 h2 => ?_)
  exact k x2 im2 h2
theorem bX9_phaseFor_19 {d : Nat} {b : Nat × Nat} {bo : Bool} {im : XI} {Q : Option Value → XS → XI → Prop} {l1 : Int32} {l2 : Int32} {l3 : Int32} {s0 : Int32}  (kt : s0 = 0 → V mX9_phaseFor d b 31 [some (.ref 0), some (.int l1), some (.int l2), some (.int l3)] [] (SC bo) im Q) (kf : ¬ s0 = 0 → V mX9_phaseFor d b 22 [some (.ref 0), some (.int l1), some (.int l2), some (.int l3)] [] (SC bo) im Q) : V mX9_phaseFor d b 19 [some (.ref 0), some (.int l1), some (.int l2), some (.int l3)] [.int s0] (SC bo) im Q := by
  refine V.if_eq (tgt := 31) dX9_phaseFor_19 (by decide) (fun h => ?_) (fun h => ?_)
  · exact kt h
  · exact kf h
theorem bX9_phaseFor_22 {d : Nat} {b : Nat × Nat} {bo : Bool} {im : XI} {Q : Option Value → XS → XI → Prop} {l1 : Int32} {l2 : Int32} {l3 : Int32} {P : Int32 → XI → Prop}  (hs : SpI mX9_within d [.int l3, .int (0 : Int32), .int (1 : Int32)] (SC bo) im P) (k : ∀ x2 im2, P x2 im2 → V mX9_phaseFor (d + 1) b 28 [some (.ref 0), some (.int l1), some (.int l2), some (.int l3)] [.int x2] (SC bo) im2 Q) : V mX9_phaseFor (d + 1) b 22 [some (.ref 0), some (.int l1), some (.int l2), some (.int l3)] [] (SC bo) im Q := by
  refine V.iload_n dX9_phaseFor_22 rfl rfl ?_
  refine V.iconst (v := 0) dX9_phaseFor_23 (by decide) ?_
  refine V.iconst (v := 1) dX9_phaseFor_24 (by decide) ?_
  refine V.cSI rfl vX9_within lkX9_93 sX9_within (As := [.int l3, .int (0 : Int32), .int (1 : Int32)]) rfl rfl rfl dX9_phaseFor_25 hs (fun x2 im2 h2 => ?_)
  exact k x2 im2 h2
theorem bX9_phaseFor_28 {d : Nat} {b : Nat × Nat} {bo : Bool} {im : XI} {Q : Option Value → XS → XI → Prop} {l1 : Int32} {l2 : Int32} {l3 : Int32} {s0 : Int32}  (kt : ¬ s0 = 0 → V mX9_phaseFor d b 38 [some (.ref 0), some (.int l1), some (.int l2), some (.int l3)] [] (SC bo) im Q) (kf : s0 = 0 → V mX9_phaseFor d b 31 [some (.ref 0), some (.int l1), some (.int l2), some (.int l3)] [] (SC bo) im Q) : V mX9_phaseFor d b 28 [some (.ref 0), some (.int l1), some (.int l2), some (.int l3)] [.int s0] (SC bo) im Q := by
  refine V.if_ne (tgt := 38) dX9_phaseFor_28 (by decide) (fun h => ?_) (fun h => ?_)
  · exact kt h
  · exact kf h
theorem bX9_phaseFor_31 {d : Nat} {b : Nat × Nat} {bo : Bool} {im : XI} {Q : Option Value → XS → XI → Prop} {l1 : Int32} {l2 : Int32} {l3 : Int32} {P : Int32 → XI → Prop}  (hs : SpI mX9_fail d [.ref 0, .int (-1000000001 : Int32)] (SC bo) im P) (k : ∀ x2 im2, P x2 im2 → V mX9_phaseFor (d + 1) b 37 [some (.ref 0), some (.int l1), some (.int l2), some (.int l3)] [.int x2] (SC bo) im2 Q) : V mX9_phaseFor (d + 1) b 31 [some (.ref 0), some (.int l1), some (.int l2), some (.int l3)] [] (SC bo) im Q := by
  refine V.aload_n dX9_phaseFor_31 rfl rfl ?_
  refine V.ldc kX9_64 dX9_phaseFor_32 ?_
  refine V.cVI rfl vX9_fail lkX9_65 wX9_fail (ci := 9) rfl (by rfl) (As := [.int (-1000000001 : Int32)]) rfl rfl rfl dX9_phaseFor_34 hs (fun x2 im2 h2 => ?_)
  exact k x2 im2 h2
theorem bX9_phaseFor_37 {d : Nat} {b : Nat × Nat} {bo : Bool} {im : XI} {Q : Option Value → XS → XI → Prop} {l1 : Int32} {l2 : Int32} {l3 : Int32} {s0 : Int32}  (hq : Q (some (.int s0)) (SC bo) im) : V mX9_phaseFor d b 37 [some (.ref 0), some (.int l1), some (.int l2), some (.int l3)] [.int s0] (SC bo) im Q := by
  exact V.iret rfl dX9_phaseFor_37 hq
theorem bX9_phaseFor_38 {d : Nat} {b : Nat × Nat} {bo : Bool} {im : XI} {Q : Option Value → XS → XI → Prop} {l1 : Int32} {l2 : Int32} {l3 : Int32} {i1 : Nat} {P : Int32 → XI → Prop} (g0 : l2 = nI i1) (g1 : i1 < 6) (hs : SpI mX1_findPhase d [.ref 31, .int l1, .ref (22 + i1)] (SC bo) im P) (k : ∀ x2 im2, P x2 im2 → V mX9_phaseFor (d + 1) b 55 [some (.ref 0), some (.int l1), some (.int l2), some (.int l3)] [.int x2] (SC bo) im2 Q) : V mX9_phaseFor (d + 1) b 38 [some (.ref 0), some (.int l1), some (.int l2), some (.int l3)] [] (SC bo) im Q := by
  refine V.aload_n dX9_phaseFor_38 rfl rfl ?_
  refine V.getR fX9_34 rfl (by rfl) (by rfl) dX9_phaseFor_39 ?_
  refine V.iload_n dX9_phaseFor_42 rfl rfl ?_
  refine V.aload_n dX9_phaseFor_43 rfl rfl ?_
  refine V.getR fX9_12 rfl (by rfl) (by rfl) dX9_phaseFor_44 ?_
  refine V.getR fX9_125 rfl (by rfl) (by rfl) dX9_phaseFor_47 ?_
  refine V.iload_n dX9_phaseFor_50 rfl rfl ?_
  refine V.aald (i := i1) ⟨by rfl, by rfl, by rfl⟩ g0 g1 (xdoings g1) dX9_phaseFor_51 ?_
  refine V.cVI rfl vX1_findPhase lkX9_228 wX1_findPhase (ci := 1) rfl (by rfl) (As := [.int l1, .ref (22 + i1)]) rfl rfl rfl dX9_phaseFor_52 hs (fun x2 im2 h2 => ?_)
  exact k x2 im2 h2
theorem bX9_phaseFor_55 {d : Nat} {b : Nat × Nat} {bo : Bool} {im : XI} {Q : Option Value → XS → XI → Prop} {l1 : Int32} {l2 : Int32} {l3 : Int32} {s0 : Int32}  (kt : ¬ s0 = 0 → V mX9_phaseFor d b 65 [some (.ref 0), some (.int l1), some (.int l2), some (.int l3)] [] (SC bo) im Q) (kf : s0 = 0 → V mX9_phaseFor d b 58 [some (.ref 0), some (.int l1), some (.int l2), some (.int l3)] [] (SC bo) im Q) : V mX9_phaseFor d b 55 [some (.ref 0), some (.int l1), some (.int l2), some (.int l3)] [.int s0] (SC bo) im Q := by
  refine V.if_ne (tgt := 65) dX9_phaseFor_55 (by decide) (fun h => ?_) (fun h => ?_)
  · exact kt h
  · exact kf h
theorem bX9_phaseFor_58 {d : Nat} {b : Nat × Nat} {bo : Bool} {im : XI} {Q : Option Value → XS → XI → Prop} {l1 : Int32} {l2 : Int32} {l3 : Int32} {P : Int32 → XI → Prop}  (hs : SpI mX9_fail d [.ref 0, .int (-1000000002 : Int32)] (SC bo) im P) (k : ∀ x2 im2, P x2 im2 → V mX9_phaseFor (d + 1) b 64 [some (.ref 0), some (.int l1), some (.int l2), some (.int l3)] [.int x2] (SC bo) im2 Q) : V mX9_phaseFor (d + 1) b 58 [some (.ref 0), some (.int l1), some (.int l2), some (.int l3)] [] (SC bo) im Q := by
  refine V.aload_n dX9_phaseFor_58 rfl rfl ?_
  refine V.ldc kX9_212 dX9_phaseFor_59 ?_
  refine V.cVI rfl vX9_fail lkX9_65 wX9_fail (ci := 9) rfl (by rfl) (As := [.int (-1000000002 : Int32)]) rfl rfl rfl dX9_phaseFor_61 hs (fun x2 im2 h2 => ?_)
  exact k x2 im2 h2
theorem bX9_phaseFor_64 {d : Nat} {b : Nat × Nat} {bo : Bool} {im : XI} {Q : Option Value → XS → XI → Prop} {l1 : Int32} {l2 : Int32} {l3 : Int32} {s0 : Int32}  (hq : Q (some (.int s0)) (SC bo) im) : V mX9_phaseFor d b 64 [some (.ref 0), some (.int l1), some (.int l2), some (.int l3)] [.int s0] (SC bo) im Q := by
  exact V.iret rfl dX9_phaseFor_64 hq
theorem bX9_phaseFor_65 {d : Nat} {b : Nat × Nat} {bo : Bool} {im : XI} {Q : Option Value → XS → XI → Prop} {l1 : Int32} {l2 : Int32} {l3 : Int32}  (kt : ¬ l3 = 0 → V mX9_phaseFor d b 79 [some (.ref 0), some (.int l1), some (.int l2), some (.int l3)] [] (SC bo) im Q) (kf : l3 = 0 → V mX9_phaseFor d b 69 [some (.ref 0), some (.int l1), some (.int l2), some (.int l3)] [] (SC bo) im Q) : V mX9_phaseFor d b 65 [some (.ref 0), some (.int l1), some (.int l2), some (.int l3)] [] (SC bo) im Q := by
  refine V.iload_n dX9_phaseFor_65 rfl rfl ?_
  refine V.if_ne (tgt := 79) dX9_phaseFor_66 (by decide) (fun h => ?_) (fun h => ?_)
  · exact kt h
  · exact kf h
theorem bX9_phaseFor_69 {d : Nat} {b : Nat × Nat} {bo : Bool} {im : XI} {Q : Option Value → XS → XI → Prop} {l1 : Int32} {l2 : Int32} {l3 : Int32}  (k : V mX9_phaseFor d b 86 [some (.ref 0), some (.int l1), some (.int l2), some (.int l3)] [.int (im 31 2)] (SC bo) im Q) : V mX9_phaseFor d b 69 [some (.ref 0), some (.int l1), some (.int l2), some (.int l3)] [] (SC bo) im Q := by
  refine V.aload_n dX9_phaseFor_69 rfl rfl ?_
  refine V.getR fX9_34 rfl (by rfl) (by rfl) dX9_phaseFor_70 ?_
  refine V.getI fX9_232 rfl (by rfl) dX9_phaseFor_73 ?_
  refine V.goto (tgt := 86) dX9_phaseFor_76 (by decide) ?_
  exact k
theorem bX9_phaseFor_79 {d : Nat} {b : Nat × Nat} {bo : Bool} {im : XI} {Q : Option Value → XS → XI → Prop} {l1 : Int32} {l2 : Int32} {l3 : Int32}  (k : V mX9_phaseFor d b 86 [some (.ref 0), some (.int l1), some (.int l2), some (.int l3)] [.int (im 31 3)] (SC bo) im Q) : V mX9_phaseFor d b 79 [some (.ref 0), some (.int l1), some (.int l2), some (.int l3)] [] (SC bo) im Q := by
  refine V.aload_n dX9_phaseFor_79 rfl rfl ?_
  refine V.getR fX9_34 rfl (by rfl) (by rfl) dX9_phaseFor_80 ?_
  refine V.getI fX9_235 rfl (by rfl) dX9_phaseFor_83 ?_
  exact k
theorem bX9_phaseFor_86 {d : Nat} {b : Nat × Nat} {bo : Bool} {im : XI} {Q : Option Value → XS → XI → Prop} {l1 : Int32} {l2 : Int32} {l3 : Int32} {s0 : Int32}  (hq : Q (some (.int s0)) (SC bo) im) : V mX9_phaseFor d b 86 [some (.ref 0), some (.int l1), some (.int l2), some (.int l3)] [.int s0] (SC bo) im Q := by
  exact V.iret rfl dX9_phaseFor_86 hq
theorem bX9_odds_0 {d : Nat} {b : Nat × Nat} {bo : Bool} {im : XI} {Q : Option Value → XS → XI → Prop} {l1 : Int32} {l2 : Int32} {l3 : Int32} {P : Int32 → XI → Prop}  (hs : SpI mX2_hasSet d [.ref 1, .int l1] (SC bo) im P) (k : ∀ x2 im2, P x2 im2 → V mX9_odds (d + 1) b 8 [some (.ref 0), some (.int l1), some (.int l2), some (.int l3), none, none, none] [.int x2] (SC bo) im2 Q) : V mX9_odds (d + 1) b 0 [some (.ref 0), some (.int l1), some (.int l2), some (.int l3), none, none, none] [] (SC bo) im Q := by
  refine V.aload_n dX9_odds_0 rfl rfl ?_
  refine V.getR fX9_12 rfl (by rfl) (by rfl) dX9_odds_1 ?_
  refine V.iload_n dX9_odds_4 rfl rfl ?_
  refine V.cVI rfl vX2_hasSet lkX9_116 wX2_hasSet (ci := 2) rfl (by rfl) (As := [.int l1]) rfl rfl rfl dX9_odds_5 hs (fun x2 im2 h2 => ?_)
  exact k x2 im2 h2
theorem bX9_odds_8 {d : Nat} {b : Nat × Nat} {bo : Bool} {im : XI} {Q : Option Value → XS → XI → Prop} {l1 : Int32} {l2 : Int32} {l3 : Int32} {s0 : Int32}  (kt : s0 = 0 → V mX9_odds d b 30 [some (.ref 0), some (.int l1), some (.int l2), some (.int l3), none, none, none] [] (SC bo) im Q) (kf : ¬ s0 = 0 → V mX9_odds d b 11 [some (.ref 0), some (.int l1), some (.int l2), some (.int l3), none, none, none] [] (SC bo) im Q) : V mX9_odds d b 8 [some (.ref 0), some (.int l1), some (.int l2), some (.int l3), none, none, none] [.int s0] (SC bo) im Q := by
  refine V.if_eq (tgt := 30) dX9_odds_8 (by decide) (fun h => ?_) (fun h => ?_)
  · exact kt h
  · exact kf h
theorem bX9_odds_11 {d : Nat} {b : Nat × Nat} {bo : Bool} {im : XI} {Q : Option Value → XS → XI → Prop} {l1 : Int32} {l2 : Int32} {l3 : Int32} {P : Int32 → XI → Prop}  (hs : SpI mX9_within d [.int l2, .int (1 : Int32), .int (99 : Int32)] (SC bo) im P) (k : ∀ x2 im2, P x2 im2 → V mX9_odds (d + 1) b 18 [some (.ref 0), some (.int l1), some (.int l2), some (.int l3), none, none, none] [.int x2] (SC bo) im2 Q) : V mX9_odds (d + 1) b 11 [some (.ref 0), some (.int l1), some (.int l2), some (.int l3), none, none, none] [] (SC bo) im Q := by
  refine V.iload_n dX9_odds_11 rfl rfl ?_
  refine V.iconst (v := 1) dX9_odds_12 (by decide) ?_
  refine V.bipush (v := 99) dX9_odds_13 (by decide) ?_
  refine V.cSI rfl vX9_within lkX9_93 sX9_within (As := [.int l2, .int (1 : Int32), .int (99 : Int32)]) rfl rfl rfl dX9_odds_15 hs (fun x2 im2 h2 => ?_)
  exact k x2 im2 h2
theorem bX9_odds_18 {d : Nat} {b : Nat × Nat} {bo : Bool} {im : XI} {Q : Option Value → XS → XI → Prop} {l1 : Int32} {l2 : Int32} {l3 : Int32} {s0 : Int32}  (kt : s0 = 0 → V mX9_odds d b 30 [some (.ref 0), some (.int l1), some (.int l2), some (.int l3), none, none, none] [] (SC bo) im Q) (kf : ¬ s0 = 0 → V mX9_odds d b 21 [some (.ref 0), some (.int l1), some (.int l2), some (.int l3), none, none, none] [] (SC bo) im Q) : V mX9_odds d b 18 [some (.ref 0), some (.int l1), some (.int l2), some (.int l3), none, none, none] [.int s0] (SC bo) im Q := by
  refine V.if_eq (tgt := 30) dX9_odds_18 (by decide) (fun h => ?_) (fun h => ?_)
  · exact kt h
  · exact kf h
theorem bX9_odds_21 {d : Nat} {b : Nat × Nat} {bo : Bool} {im : XI} {Q : Option Value → XS → XI → Prop} {l1 : Int32} {l2 : Int32} {l3 : Int32} {P : Int32 → XI → Prop}  (hs : SpI mX9_within d [.int l3, .int (0 : Int32), .int (1 : Int32)] (SC bo) im P) (k : ∀ x2 im2, P x2 im2 → V mX9_odds (d + 1) b 27 [some (.ref 0), some (.int l1), some (.int l2), some (.int l3), none, none, none] [.int x2] (SC bo) im2 Q) : V mX9_odds (d + 1) b 21 [some (.ref 0), some (.int l1), some (.int l2), some (.int l3), none, none, none] [] (SC bo) im Q := by
  refine V.iload_n dX9_odds_21 rfl rfl ?_
  refine V.iconst (v := 0) dX9_odds_22 (by decide) ?_
  refine V.iconst (v := 1) dX9_odds_23 (by decide) ?_
  refine V.cSI rfl vX9_within lkX9_93 sX9_within (As := [.int l3, .int (0 : Int32), .int (1 : Int32)]) rfl rfl rfl dX9_odds_24 hs (fun x2 im2 h2 => ?_)
  exact k x2 im2 h2
theorem bX9_odds_27 {d : Nat} {b : Nat × Nat} {bo : Bool} {im : XI} {Q : Option Value → XS → XI → Prop} {l1 : Int32} {l2 : Int32} {l3 : Int32} {s0 : Int32}  (kt : ¬ s0 = 0 → V mX9_odds d b 37 [some (.ref 0), some (.int l1), some (.int l2), some (.int l3), none, none, none] [] (SC bo) im Q) (kf : s0 = 0 → V mX9_odds d b 30 [some (.ref 0), some (.int l1), some (.int l2), some (.int l3), none, none, none] [] (SC bo) im Q) : V mX9_odds d b 27 [some (.ref 0), some (.int l1), some (.int l2), some (.int l3), none, none, none] [.int s0] (SC bo) im Q := by
  refine V.if_ne (tgt := 37) dX9_odds_27 (by decide) (fun h => ?_) (fun h => ?_)
  · exact kt h
  · exact kf h
theorem bX9_odds_30 {d : Nat} {b : Nat × Nat} {bo : Bool} {im : XI} {Q : Option Value → XS → XI → Prop} {l1 : Int32} {l2 : Int32} {l3 : Int32} {P : Int32 → XI → Prop}  (hs : SpI mX9_fail d [.ref 0, .int (-1000000001 : Int32)] (SC bo) im P) (k : ∀ x2 im2, P x2 im2 → V mX9_odds (d + 1) b 36 [some (.ref 0), some (.int l1), some (.int l2), some (.int l3), none, none, none] [.int x2] (SC bo) im2 Q) : V mX9_odds (d + 1) b 30 [some (.ref 0), some (.int l1), some (.int l2), some (.int l3), none, none, none] [] (SC bo) im Q := by
  refine V.aload_n dX9_odds_30 rfl rfl ?_
  refine V.ldc kX9_64 dX9_odds_31 ?_
  refine V.cVI rfl vX9_fail lkX9_65 wX9_fail (ci := 9) rfl (by rfl) (As := [.int (-1000000001 : Int32)]) rfl rfl rfl dX9_odds_33 hs (fun x2 im2 h2 => ?_)
  exact k x2 im2 h2
theorem bX9_odds_36 {d : Nat} {b : Nat × Nat} {bo : Bool} {im : XI} {Q : Option Value → XS → XI → Prop} {l1 : Int32} {l2 : Int32} {l3 : Int32} {s0 : Int32}  (hq : Q (some (.int s0)) (SC bo) im) : V mX9_odds d b 36 [some (.ref 0), some (.int l1), some (.int l2), some (.int l3), none, none, none] [.int s0] (SC bo) im Q := by
  exact V.iret rfl dX9_odds_36 hq
theorem bX9_odds_37 {d : Nat} {b : Nat × Nat} {bo : Bool} {im : XI} {Q : Option Value → XS → XI → Prop} {l1 : Int32} {l2 : Int32} {l3 : Int32} {P : Int32 → XI → Prop}  (hs : SpI mX1_momentsAmong d [.ref 31, .int l1, .int l2] (SC bo) im P) (k : ∀ x2 im2, P x2 im2 → V mX9_odds (d + 1) b 46 [some (.ref 0), some (.int l1), some (.int l2), some (.int l3), none, none, none] [.int x2] (SC bo) im2 Q) : V mX9_odds (d + 1) b 37 [some (.ref 0), some (.int l1), some (.int l2), some (.int l3), none, none, none] [] (SC bo) im Q := by
  refine V.aload_n dX9_odds_37 rfl rfl ?_
  refine V.getR fX9_34 rfl (by rfl) (by rfl) dX9_odds_38 ?_
  refine V.iload_n dX9_odds_41 rfl rfl ?_
  refine V.iload_n dX9_odds_42 rfl rfl ?_
  refine V.cVI rfl vX1_momentsAmong lkX9_216 wX1_momentsAmong (ci := 1) rfl (by rfl) (As := [.int l1, .int l2]) rfl rfl rfl dX9_odds_43 hs (fun x2 im2 h2 => ?_)
  exact k x2 im2 h2
theorem bX9_odds_46 {d : Nat} {b : Nat × Nat} {bo : Bool} {im : XI} {Q : Option Value → XS → XI → Prop} {l1 : Int32} {l2 : Int32} {l3 : Int32} {s0 : Int32} {P : Int32 → XI → Prop}  (hs : SpI mX9_commonDivisor d [.int l2, .int s0] (SC bo) im P) (k : ∀ x2 im2, P x2 im2 → V mX9_odds (d + 1) b 54 [some (.ref 0), some (.int l1), some (.int l2), some (.int l3), some (.int s0), none, none] [.int x2] (SC bo) im2 Q) : V mX9_odds (d + 1) b 46 [some (.ref 0), some (.int l1), some (.int l2), some (.int l3), none, none, none] [.int s0] (SC bo) im Q := by
  refine V.istore dX9_odds_46 rfl rfl ?_
  refine V.iload_n dX9_odds_48 rfl rfl ?_
  refine V.iload dX9_odds_49 rfl ?_
  refine V.cSI rfl vX9_commonDivisor lkX9_238 sX9_commonDivisor (As := [.int l2, .int s0]) rfl rfl rfl dX9_odds_51 hs (fun x2 im2 h2 => ?_)
  exact k x2 im2 h2
theorem bX9_odds_54 {d : Nat} {b : Nat × Nat} {bo : Bool} {im : XI} {Q : Option Value → XS → XI → Prop} {l1 : Int32} {l2 : Int32} {l3 : Int32} {l4 : Int32} {s0 : Int32}  (kt : ¬ l3 = 0 → V mX9_odds d b 65 [some (.ref 0), some (.int l1), some (.int l2), some (.int l3), some (.int l4), some (.int s0), none] [] (SC bo) im Q) (kf : l3 = 0 → V mX9_odds d b 60 [some (.ref 0), some (.int l1), some (.int l2), some (.int l3), some (.int l4), some (.int s0), none] [] (SC bo) im Q) : V mX9_odds d b 54 [some (.ref 0), some (.int l1), some (.int l2), some (.int l3), some (.int l4), none, none] [.int s0] (SC bo) im Q := by
  refine V.istore dX9_odds_54 rfl rfl ?_
  refine V.iload_n dX9_odds_56 rfl rfl ?_
  refine V.if_ne (tgt := 65) dX9_odds_57 (by decide) (fun h => ?_) (fun h => ?_)
  · exact kt h
  · exact kf h
theorem bX9_odds_60 {d : Nat} {b : Nat × Nat} {bo : Bool} {im : XI} {Q : Option Value → XS → XI → Prop} {l1 : Int32} {l2 : Int32} {l3 : Int32} {l4 : Int32} {l5 : Int32}  (k : V mX9_odds d b 66 [some (.ref 0), some (.int l1), some (.int l2), some (.int l3), some (.int l4), some (.int l5), none] [.int l4] (SC bo) im Q) : V mX9_odds d b 60 [some (.ref 0), some (.int l1), some (.int l2), some (.int l3), some (.int l4), some (.int l5), none] [] (SC bo) im Q := by
  refine V.iload dX9_odds_60 rfl ?_
  refine V.goto (tgt := 66) dX9_odds_62 (by decide) ?_
  exact k
theorem bX9_odds_65 {d : Nat} {b : Nat × Nat} {bo : Bool} {im : XI} {Q : Option Value → XS → XI → Prop} {l1 : Int32} {l2 : Int32} {l3 : Int32} {l4 : Int32} {l5 : Int32}  (k : V mX9_odds d b 66 [some (.ref 0), some (.int l1), some (.int l2), some (.int l3), some (.int l4), some (.int l5), none] [.int l2] (SC bo) im Q) : V mX9_odds d b 65 [some (.ref 0), some (.int l1), some (.int l2), some (.int l3), some (.int l4), some (.int l5), none] [] (SC bo) im Q := by
  refine V.iload_n dX9_odds_65 rfl rfl ?_
  exact k
theorem bX9_odds_66 {d : Nat} {b : Nat × Nat} {bo : Bool} {im : XI} {Q : Option Value → XS → XI → Prop} {l1 : Int32} {l2 : Int32} {l3 : Int32} {l4 : Int32} {l5 : Int32} {s0 : Int32}  (kt : l5 ≤ 0 → V mX9_odds d b 81 [some (.ref 0), some (.int l1), some (.int l2), some (.int l3), some (.int l4), some (.int l5), some (.int s0)] [] (SC bo) im Q) (kf : ¬ l5 ≤ 0 → V mX9_odds d b 73 [some (.ref 0), some (.int l1), some (.int l2), some (.int l3), some (.int l4), some (.int l5), some (.int s0)] [] (SC bo) im Q) : V mX9_odds d b 66 [some (.ref 0), some (.int l1), some (.int l2), some (.int l3), some (.int l4), some (.int l5), none] [.int s0] (SC bo) im Q := by
  refine V.istore dX9_odds_66 rfl rfl ?_
  refine V.iload dX9_odds_68 rfl ?_
  refine V.if_le (tgt := 81) dX9_odds_70 (by decide) (fun h => ?_) (fun h => ?_)
  · exact kt h
  · exact kf h
theorem bX9_odds_73 {d : Nat} {b : Nat × Nat} {bo : Bool} {im : XI} {Q : Option Value → XS → XI → Prop} {l1 : Int32} {l2 : Int32} {l3 : Int32} {l4 : Int32} {l5 : Int32} {l6 : Int32} (g0 : ¬ l5 = 0) (k : V mX9_odds d b 83 [some (.ref 0), some (.int l1), some (.int l2), some (.int l3), some (.int l4), some (.int l5), some (.int l6)] [.int (l6 / l5)] (SC bo) im Q) : V mX9_odds d b 73 [some (.ref 0), some (.int l1), some (.int l2), some (.int l3), some (.int l4), some (.int l5), some (.int l6)] [] (SC bo) im Q := by
  refine V.iload dX9_odds_73 rfl ?_
  refine V.iload dX9_odds_75 rfl ?_
  refine V.idiv dX9_odds_77 g0 ?_
  refine V.goto (tgt := 83) dX9_odds_78 (by decide) ?_
  exact k
theorem bX9_odds_81 {d : Nat} {b : Nat × Nat} {bo : Bool} {im : XI} {Q : Option Value → XS → XI → Prop} {l1 : Int32} {l2 : Int32} {l3 : Int32} {l4 : Int32} {l5 : Int32} {l6 : Int32}  (k : V mX9_odds d b 83 [some (.ref 0), some (.int l1), some (.int l2), some (.int l3), some (.int l4), some (.int l5), some (.int l6)] [.int l6] (SC bo) im Q) : V mX9_odds d b 81 [some (.ref 0), some (.int l1), some (.int l2), some (.int l3), some (.int l4), some (.int l5), some (.int l6)] [] (SC bo) im Q := by
  refine V.iload dX9_odds_81 rfl ?_
  exact k
theorem bX9_odds_83 {d : Nat} {b : Nat × Nat} {bo : Bool} {im : XI} {Q : Option Value → XS → XI → Prop} {l1 : Int32} {l2 : Int32} {l3 : Int32} {l4 : Int32} {l5 : Int32} {l6 : Int32} {s0 : Int32}  (hq : Q (some (.int s0)) (SC bo) im) : V mX9_odds d b 83 [some (.ref 0), some (.int l1), some (.int l2), some (.int l3), some (.int l4), some (.int l5), some (.int l6)] [.int s0] (SC bo) im Q := by
  exact V.iret rfl dX9_odds_83 hq
theorem bX9_fits_0 {d : Nat} {b : Nat × Nat} {bo : Bool} {im : XI} {Q : Option Value → XS → XI → Prop} {l1 : Int32} {l2 : Int32} {l3 : Int32} {P : Int32 → XI → Prop}  (hs : SpI mX9_isSheet d [.int l1] (SC bo) im P) (k : ∀ x2 im2, P x2 im2 → V mX9_fits (d + 1) b 4 [some (.ref 0), some (.int l1), some (.int l2), some (.int l3)] [.int x2] (SC bo) im2 Q) : V mX9_fits (d + 1) b 0 [some (.ref 0), some (.int l1), some (.int l2), some (.int l3)] [] (SC bo) im Q := by
  refine V.iload_n dX9_fits_0 rfl rfl ?_
  refine V.cSI rfl vX9_isSheet lkX9_241 sX9_isSheet (As := [.int l1]) rfl rfl rfl dX9_fits_1 hs (fun x2 im2 h2 => ?_)
  exact k x2 im2 h2
theorem bX9_fits_4 {d : Nat} {b : Nat × Nat} {bo : Bool} {im : XI} {Q : Option Value → XS → XI → Prop} {l1 : Int32} {l2 : Int32} {l3 : Int32} {s0 : Int32}  (kt : s0 = 0 → V mX9_fits d b 27 [some (.ref 0), some (.int l1), some (.int l2), some (.int l3)] [] (SC bo) im Q) (kf : ¬ s0 = 0 → V mX9_fits d b 7 [some (.ref 0), some (.int l1), some (.int l2), some (.int l3)] [] (SC bo) im Q) : V mX9_fits d b 4 [some (.ref 0), some (.int l1), some (.int l2), some (.int l3)] [.int s0] (SC bo) im Q := by
  refine V.if_eq (tgt := 27) dX9_fits_4 (by decide) (fun h => ?_) (fun h => ?_)
  · exact kt h
  · exact kf h
theorem bX9_fits_7 {d : Nat} {b : Nat × Nat} {bo : Bool} {im : XI} {Q : Option Value → XS → XI → Prop} {l1 : Int32} {l2 : Int32} {l3 : Int32} {P : Int32 → XI → Prop}  (hs : SpI mX2_hasPerson d [.ref 1, .int l2] (SC bo) im P) (k : ∀ x2 im2, P x2 im2 → V mX9_fits (d + 1) b 15 [some (.ref 0), some (.int l1), some (.int l2), some (.int l3)] [.int x2] (SC bo) im2 Q) : V mX9_fits (d + 1) b 7 [some (.ref 0), some (.int l1), some (.int l2), some (.int l3)] [] (SC bo) im Q := by
  refine V.aload_n dX9_fits_7 rfl rfl ?_
  refine V.getR fX9_12 rfl (by rfl) (by rfl) dX9_fits_8 ?_
  refine V.iload_n dX9_fits_11 rfl rfl ?_
  refine V.cVI rfl vX2_hasPerson lkX9_90 wX2_hasPerson (ci := 2) rfl (by rfl) (As := [.int l2]) rfl rfl rfl dX9_fits_12 hs (fun x2 im2 h2 => ?_)
  exact k x2 im2 h2
theorem bX9_fits_15 {d : Nat} {b : Nat × Nat} {bo : Bool} {im : XI} {Q : Option Value → XS → XI → Prop} {l1 : Int32} {l2 : Int32} {l3 : Int32} {s0 : Int32}  (kt : s0 = 0 → V mX9_fits d b 27 [some (.ref 0), some (.int l1), some (.int l2), some (.int l3)] [] (SC bo) im Q) (kf : ¬ s0 = 0 → V mX9_fits d b 18 [some (.ref 0), some (.int l1), some (.int l2), some (.int l3)] [] (SC bo) im Q) : V mX9_fits d b 15 [some (.ref 0), some (.int l1), some (.int l2), some (.int l3)] [.int s0] (SC bo) im Q := by
  refine V.if_eq (tgt := 27) dX9_fits_15 (by decide) (fun h => ?_) (fun h => ?_)
  · exact kt h
  · exact kf h
theorem bX9_fits_18 {d : Nat} {b : Nat × Nat} {bo : Bool} {im : XI} {Q : Option Value → XS → XI → Prop} {l1 : Int32} {l2 : Int32} {l3 : Int32} {P : Int32 → XI → Prop}  (hs : SpI mX9_within d [.int l3, .int (0 : Int32), .int (1 : Int32)] (SC bo) im P) (k : ∀ x2 im2, P x2 im2 → V mX9_fits (d + 1) b 24 [some (.ref 0), some (.int l1), some (.int l2), some (.int l3)] [.int x2] (SC bo) im2 Q) : V mX9_fits (d + 1) b 18 [some (.ref 0), some (.int l1), some (.int l2), some (.int l3)] [] (SC bo) im Q := by
  refine V.iload_n dX9_fits_18 rfl rfl ?_
  refine V.iconst (v := 0) dX9_fits_19 (by decide) ?_
  refine V.iconst (v := 1) dX9_fits_20 (by decide) ?_
  refine V.cSI rfl vX9_within lkX9_93 sX9_within (As := [.int l3, .int (0 : Int32), .int (1 : Int32)]) rfl rfl rfl dX9_fits_21 hs (fun x2 im2 h2 => ?_)
  exact k x2 im2 h2
theorem bX9_fits_24 {d : Nat} {b : Nat × Nat} {bo : Bool} {im : XI} {Q : Option Value → XS → XI → Prop} {l1 : Int32} {l2 : Int32} {l3 : Int32} {s0 : Int32}  (kt : ¬ s0 = 0 → V mX9_fits d b 34 [some (.ref 0), some (.int l1), some (.int l2), some (.int l3)] [] (SC bo) im Q) (kf : s0 = 0 → V mX9_fits d b 27 [some (.ref 0), some (.int l1), some (.int l2), some (.int l3)] [] (SC bo) im Q) : V mX9_fits d b 24 [some (.ref 0), some (.int l1), some (.int l2), some (.int l3)] [.int s0] (SC bo) im Q := by
  refine V.if_ne (tgt := 34) dX9_fits_24 (by decide) (fun h => ?_) (fun h => ?_)
  · exact kt h
  · exact kf h
theorem bX9_fits_27 {d : Nat} {b : Nat × Nat} {bo : Bool} {im : XI} {Q : Option Value → XS → XI → Prop} {l1 : Int32} {l2 : Int32} {l3 : Int32} {P : Int32 → XI → Prop}  (hs : SpI mX9_fail d [.ref 0, .int (-1000000001 : Int32)] (SC bo) im P) (k : ∀ x2 im2, P x2 im2 → V mX9_fits (d + 1) b 33 [some (.ref 0), some (.int l1), some (.int l2), some (.int l3)] [.int x2] (SC bo) im2 Q) : V mX9_fits (d + 1) b 27 [some (.ref 0), some (.int l1), some (.int l2), some (.int l3)] [] (SC bo) im Q := by
  refine V.aload_n dX9_fits_27 rfl rfl ?_
  refine V.ldc kX9_64 dX9_fits_28 ?_
  refine V.cVI rfl vX9_fail lkX9_65 wX9_fail (ci := 9) rfl (by rfl) (As := [.int (-1000000001 : Int32)]) rfl rfl rfl dX9_fits_30 hs (fun x2 im2 h2 => ?_)
  exact k x2 im2 h2
theorem bX9_fits_33 {d : Nat} {b : Nat × Nat} {bo : Bool} {im : XI} {Q : Option Value → XS → XI → Prop} {l1 : Int32} {l2 : Int32} {l3 : Int32} {s0 : Int32}  (hq : Q (some (.int s0)) (SC bo) im) : V mX9_fits d b 33 [some (.ref 0), some (.int l1), some (.int l2), some (.int l3)] [.int s0] (SC bo) im Q := by
  exact V.iret rfl dX9_fits_33 hq
theorem bX9_fits_34 {d : Nat} {b : Nat × Nat} {bo : Bool} {im : XI} {Q : Option Value → XS → XI → Prop} {l1 : Int32} {l2 : Int32} {l3 : Int32} {i1 : Nat} {P : Int32 → XI → Prop} (g0 : l1 = nI i1) (g1 : i1 < 4) (hs : SpI mX7_isMissing d [.ref (38 + 3 * i1)] (SC bo) im P) (k : ∀ x2 im2, P x2 im2 → V mX9_fits (d + 1) b 43 [some (.ref 0), some (.int l1), some (.int l2), some (.int l3)] [.int x2] (SC bo) im2 Q) : V mX9_fits (d + 1) b 34 [some (.ref 0), some (.int l1), some (.int l2), some (.int l3)] [] (SC bo) im Q := by
  refine V.aload_n dX9_fits_34 rfl rfl ?_
  refine V.getR fX9_47 rfl (by rfl) (by rfl) dX9_fits_35 ?_
  refine V.iload_n dX9_fits_38 rfl rfl ?_
  refine V.aald (i := i1) ⟨by rfl, by rfl, by rfl⟩ g0 g1 (xsheets g1) dX9_fits_39 ?_
  refine V.cVI rfl vX7_isMissing lkX9_244 wX7_isMissing (ci := 7) rfl (xsheet g1) (As := []) rfl rfl rfl dX9_fits_40 hs (fun x2 im2 h2 => ?_)
  exact k x2 im2 h2
theorem bX9_fits_43 {d : Nat} {b : Nat × Nat} {bo : Bool} {im : XI} {Q : Option Value → XS → XI → Prop} {l1 : Int32} {l2 : Int32} {l3 : Int32} {s0 : Int32}  (kt : s0 = 0 → V mX9_fits d b 53 [some (.ref 0), some (.int l1), some (.int l2), some (.int l3)] [] (SC bo) im Q) (kf : ¬ s0 = 0 → V mX9_fits d b 46 [some (.ref 0), some (.int l1), some (.int l2), some (.int l3)] [] (SC bo) im Q) : V mX9_fits d b 43 [some (.ref 0), some (.int l1), some (.int l2), some (.int l3)] [.int s0] (SC bo) im Q := by
  refine V.if_eq (tgt := 53) dX9_fits_43 (by decide) (fun h => ?_) (fun h => ?_)
  · exact kt h
  · exact kf h
theorem bX9_fits_46 {d : Nat} {b : Nat × Nat} {bo : Bool} {im : XI} {Q : Option Value → XS → XI → Prop} {l1 : Int32} {l2 : Int32} {l3 : Int32} {P : Int32 → XI → Prop}  (hs : SpI mX9_fail d [.ref 0, .int (-1000000002 : Int32)] (SC bo) im P) (k : ∀ x2 im2, P x2 im2 → V mX9_fits (d + 1) b 52 [some (.ref 0), some (.int l1), some (.int l2), some (.int l3)] [.int x2] (SC bo) im2 Q) : V mX9_fits (d + 1) b 46 [some (.ref 0), some (.int l1), some (.int l2), some (.int l3)] [] (SC bo) im Q := by
  refine V.aload_n dX9_fits_46 rfl rfl ?_
  refine V.ldc kX9_212 dX9_fits_47 ?_
  refine V.cVI rfl vX9_fail lkX9_65 wX9_fail (ci := 9) rfl (by rfl) (As := [.int (-1000000002 : Int32)]) rfl rfl rfl dX9_fits_49 hs (fun x2 im2 h2 => ?_)
  exact k x2 im2 h2
theorem bX9_fits_52 {d : Nat} {b : Nat × Nat} {bo : Bool} {im : XI} {Q : Option Value → XS → XI → Prop} {l1 : Int32} {l2 : Int32} {l3 : Int32} {s0 : Int32}  (hq : Q (some (.int s0)) (SC bo) im) : V mX9_fits d b 52 [some (.ref 0), some (.int l1), some (.int l2), some (.int l3)] [.int s0] (SC bo) im Q := by
  exact V.iret rfl dX9_fits_52 hq
theorem bX9_fits_53 {d : Nat} {b : Nat × Nat} {bo : Bool} {im : XI} {Q : Option Value → XS → XI → Prop} {l1 : Int32} {l2 : Int32} {l3 : Int32} {i1 : Nat} {P : XI → Prop} (g0 : l1 = nI i1) (g1 : i1 < 4) (hs : SpV mX1_findFits d [.ref 31, .int l2, .ref (39 + 3 * i1)] (SC bo) im P) (k : ∀ im2, P im2 → V mX9_fits (d + 1) b 70 [some (.ref 0), some (.int l1), some (.int l2), some (.int l3)] [] (SC bo) im2 Q) : V mX9_fits (d + 1) b 53 [some (.ref 0), some (.int l1), some (.int l2), some (.int l3)] [] (SC bo) im Q := by
  refine V.aload_n dX9_fits_53 rfl rfl ?_
  refine V.getR fX9_34 rfl (by rfl) (by rfl) dX9_fits_54 ?_
  refine V.iload_n dX9_fits_57 rfl rfl ?_
  refine V.aload_n dX9_fits_58 rfl rfl ?_
  refine V.getR fX9_47 rfl (by rfl) (by rfl) dX9_fits_59 ?_
  refine V.iload_n dX9_fits_62 rfl rfl ?_
  refine V.aald (i := i1) ⟨by rfl, by rfl, by rfl⟩ g0 g1 (xsheets g1) dX9_fits_63 ?_
  refine V.getR fX9_248 rfl (xsheet g1) (xsheetR g1) dX9_fits_64 ?_
  refine V.cVV rfl vX1_findFits lkX9_251 wX1_findFits (ci := 1) rfl (by rfl) (As := [.int l2, .ref (39 + 3 * i1)]) rfl rfl rfl dX9_fits_67 hs (fun im2 h2 => ?_)
  exact k im2 h2
theorem bX9_fits_70 {d : Nat} {b : Nat × Nat} {bo : Bool} {im : XI} {Q : Option Value → XS → XI → Prop} {l1 : Int32} {l2 : Int32} {l3 : Int32}  (kt : ¬ l3 = 0 → V mX9_fits d b 82 [some (.ref 0), some (.int l1), some (.int l2), some (.int l3)] [] (SC bo) im Q) (kf : l3 = 0 → V mX9_fits d b 74 [some (.ref 0), some (.int l1), some (.int l2), some (.int l3)] [] (SC bo) im Q) : V mX9_fits d b 70 [some (.ref 0), some (.int l1), some (.int l2), some (.int l3)] [] (SC bo) im Q := by
  refine V.iload_n dX9_fits_70 rfl rfl ?_
  refine V.if_ne (tgt := 82) dX9_fits_71 (by decide) (fun h => ?_) (fun h => ?_)
  · exact kt h
  · exact kf h
theorem bX9_fits_74 {d : Nat} {b : Nat × Nat} {bo : Bool} {im : XI} {Q : Option Value → XS → XI → Prop} {l1 : Int32} {l2 : Int32} {l3 : Int32}  (hq : Q (some (.int (im 31 4))) (SC bo) im) : V mX9_fits d b 74 [some (.ref 0), some (.int l1), some (.int l2), some (.int l3)] [] (SC bo) im Q := by
  refine V.aload_n dX9_fits_74 rfl rfl ?_
  refine V.getR fX9_34 rfl (by rfl) (by rfl) dX9_fits_75 ?_
  refine V.getI fX9_255 rfl (by rfl) dX9_fits_78 ?_
  exact V.iret rfl dX9_fits_81 hq
theorem bX9_fits_82 {d : Nat} {b : Nat × Nat} {bo : Bool} {im : XI} {Q : Option Value → XS → XI → Prop} {l1 : Int32} {l2 : Int32} {l3 : Int32}  (kt : ¬ (im 31 4) = 0 → V mX9_fits d b 101 [some (.ref 0), some (.int l1), some (.int l2), some (.int l3)] [] (SC bo) im Q) (kf : (im 31 4) = 0 → V mX9_fits d b 92 [some (.ref 0), some (.int l1), some (.int l2), some (.int l3)] [] (SC bo) im Q) : V mX9_fits d b 82 [some (.ref 0), some (.int l1), some (.int l2), some (.int l3)] [] (SC bo) im Q := by
  refine V.aload_n dX9_fits_82 rfl rfl ?_
  refine V.getR fX9_34 rfl (by rfl) (by rfl) dX9_fits_83 ?_
  refine V.getI fX9_255 rfl (by rfl) dX9_fits_86 ?_
  refine V.if_ne (tgt := 101) dX9_fits_89 (by decide) (fun h => ?_) (fun h => ?_)
  · exact kt h
  · exact kf h
theorem bX9_fits_92 {d : Nat} {b : Nat × Nat} {bo : Bool} {im : XI} {Q : Option Value → XS → XI → Prop} {l1 : Int32} {l2 : Int32} {l3 : Int32} {P : Int32 → XI → Prop}  (hs : SpI mX9_fail d [.ref 0, .int (-1000000002 : Int32)] (SC bo) im P) (k : ∀ x2 im2, P x2 im2 → V mX9_fits (d + 1) b 98 [some (.ref 0), some (.int l1), some (.int l2), some (.int l3)] [.int x2] (SC bo) im2 Q) : V mX9_fits (d + 1) b 92 [some (.ref 0), some (.int l1), some (.int l2), some (.int l3)] [] (SC bo) im Q := by
  refine V.aload_n dX9_fits_92 rfl rfl ?_
  refine V.ldc kX9_212 dX9_fits_93 ?_
  refine V.cVI rfl vX9_fail lkX9_65 wX9_fail (ci := 9) rfl (by rfl) (As := [.int (-1000000002 : Int32)]) rfl rfl rfl dX9_fits_95 hs (fun x2 im2 h2 => ?_)
  exact k x2 im2 h2
theorem bX9_fits_98 {d : Nat} {b : Nat × Nat} {bo : Bool} {im : XI} {Q : Option Value → XS → XI → Prop} {l1 : Int32} {l2 : Int32} {l3 : Int32} {s0 : Int32}  (k : V mX9_fits d b 108 [some (.ref 0), some (.int l1), some (.int l2), some (.int l3)] [.int s0] (SC bo) im Q) : V mX9_fits d b 98 [some (.ref 0), some (.int l1), some (.int l2), some (.int l3)] [.int s0] (SC bo) im Q := by
  refine V.goto (tgt := 108) dX9_fits_98 (by decide) ?_
  exact k
theorem bX9_fits_101 {d : Nat} {b : Nat × Nat} {bo : Bool} {im : XI} {Q : Option Value → XS → XI → Prop} {l1 : Int32} {l2 : Int32} {l3 : Int32}  (k : V mX9_fits d b 108 [some (.ref 0), some (.int l1), some (.int l2), some (.int l3)] [.int (im 31 5)] (SC bo) im Q) : V mX9_fits d b 101 [some (.ref 0), some (.int l1), some (.int l2), some (.int l3)] [] (SC bo) im Q := by
  refine V.aload_n dX9_fits_101 rfl rfl ?_
  refine V.getR fX9_34 rfl (by rfl) (by rfl) dX9_fits_102 ?_
  refine V.getI fX9_258 rfl (by rfl) dX9_fits_105 ?_
  exact k
theorem bX9_fits_108 {d : Nat} {b : Nat × Nat} {bo : Bool} {im : XI} {Q : Option Value → XS → XI → Prop} {l1 : Int32} {l2 : Int32} {l3 : Int32} {s0 : Int32}  (hq : Q (some (.int s0)) (SC bo) im) : V mX9_fits d b 108 [some (.ref 0), some (.int l1), some (.int l2), some (.int l3)] [.int s0] (SC bo) im Q := by
  exact V.iret rfl dX9_fits_108 hq
theorem bX9_voice_0 {d : Nat} {b : Nat × Nat} {bo : Bool} {im : XI} {Q : Option Value → XS → XI → Prop} {l1 : Int32} {l2 : Int32} {l3 : Int32} {P : Int32 → XI → Prop}  (hs : SpI mX2_hasPerson d [.ref 1, .int l1] (SC bo) im P) (k : ∀ x2 im2, P x2 im2 → V mX9_voice (d + 1) b 8 [some (.ref 0), some (.int l1), some (.int l2), some (.int l3), none] [.int x2] (SC bo) im2 Q) : V mX9_voice (d + 1) b 0 [some (.ref 0), some (.int l1), some (.int l2), some (.int l3), none] [] (SC bo) im Q := by
  refine V.aload_n dX9_voice_0 rfl rfl ?_
  refine V.getR fX9_12 rfl (by rfl) (by rfl) dX9_voice_1 ?_
  refine V.iload_n dX9_voice_4 rfl rfl ?_
  refine V.cVI rfl vX2_hasPerson lkX9_90 wX2_hasPerson (ci := 2) rfl (by rfl) (As := [.int l1]) rfl rfl rfl dX9_voice_5 hs (fun x2 im2 h2 => ?_)
  exact k x2 im2 h2
theorem bX9_voice_8 {d : Nat} {b : Nat × Nat} {bo : Bool} {im : XI} {Q : Option Value → XS → XI → Prop} {l1 : Int32} {l2 : Int32} {l3 : Int32} {s0 : Int32}  (kt : s0 = 0 → V mX9_voice d b 20 [some (.ref 0), some (.int l1), some (.int l2), some (.int l3), none] [] (SC bo) im Q) (kf : ¬ s0 = 0 → V mX9_voice d b 11 [some (.ref 0), some (.int l1), some (.int l2), some (.int l3), none] [] (SC bo) im Q) : V mX9_voice d b 8 [some (.ref 0), some (.int l1), some (.int l2), some (.int l3), none] [.int s0] (SC bo) im Q := by
  refine V.if_eq (tgt := 20) dX9_voice_8 (by decide) (fun h => ?_) (fun h => ?_)
  · exact kt h
  · exact kf h
theorem bX9_voice_11 {d : Nat} {b : Nat × Nat} {bo : Bool} {im : XI} {Q : Option Value → XS → XI → Prop} {l1 : Int32} {l2 : Int32} {l3 : Int32} {P : Int32 → XI → Prop}  (hs : SpI mX9_within d [.int l2, .int (0 : Int32), .int (3 : Int32)] (SC bo) im P) (k : ∀ x2 im2, P x2 im2 → V mX9_voice (d + 1) b 17 [some (.ref 0), some (.int l1), some (.int l2), some (.int l3), none] [.int x2] (SC bo) im2 Q) : V mX9_voice (d + 1) b 11 [some (.ref 0), some (.int l1), some (.int l2), some (.int l3), none] [] (SC bo) im Q := by
  refine V.iload_n dX9_voice_11 rfl rfl ?_
  refine V.iconst (v := 0) dX9_voice_12 (by decide) ?_
  refine V.iconst (v := 3) dX9_voice_13 (by decide) ?_
  refine V.cSI rfl vX9_within lkX9_93 sX9_within (As := [.int l2, .int (0 : Int32), .int (3 : Int32)]) rfl rfl rfl dX9_voice_14 hs (fun x2 im2 h2 => ?_)
  exact k x2 im2 h2
theorem bX9_voice_17 {d : Nat} {b : Nat × Nat} {bo : Bool} {im : XI} {Q : Option Value → XS → XI → Prop} {l1 : Int32} {l2 : Int32} {l3 : Int32} {s0 : Int32}  (kt : ¬ s0 = 0 → V mX9_voice d b 27 [some (.ref 0), some (.int l1), some (.int l2), some (.int l3), none] [] (SC bo) im Q) (kf : s0 = 0 → V mX9_voice d b 20 [some (.ref 0), some (.int l1), some (.int l2), some (.int l3), none] [] (SC bo) im Q) : V mX9_voice d b 17 [some (.ref 0), some (.int l1), some (.int l2), some (.int l3), none] [.int s0] (SC bo) im Q := by
  refine V.if_ne (tgt := 27) dX9_voice_17 (by decide) (fun h => ?_) (fun h => ?_)
  · exact kt h
  · exact kf h
theorem bX9_voice_20 {d : Nat} {b : Nat × Nat} {bo : Bool} {im : XI} {Q : Option Value → XS → XI → Prop} {l1 : Int32} {l2 : Int32} {l3 : Int32} {P : Int32 → XI → Prop}  (hs : SpI mX9_fail d [.ref 0, .int (-1000000001 : Int32)] (SC bo) im P) (k : ∀ x2 im2, P x2 im2 → V mX9_voice (d + 1) b 26 [some (.ref 0), some (.int l1), some (.int l2), some (.int l3), none] [.int x2] (SC bo) im2 Q) : V mX9_voice (d + 1) b 20 [some (.ref 0), some (.int l1), some (.int l2), some (.int l3), none] [] (SC bo) im Q := by
  refine V.aload_n dX9_voice_20 rfl rfl ?_
  refine V.ldc kX9_64 dX9_voice_21 ?_
  refine V.cVI rfl vX9_fail lkX9_65 wX9_fail (ci := 9) rfl (by rfl) (As := [.int (-1000000001 : Int32)]) rfl rfl rfl dX9_voice_23 hs (fun x2 im2 h2 => ?_)
  exact k x2 im2 h2
theorem bX9_voice_26 {d : Nat} {b : Nat × Nat} {bo : Bool} {im : XI} {Q : Option Value → XS → XI → Prop} {l1 : Int32} {l2 : Int32} {l3 : Int32} {s0 : Int32}  (hq : Q (some (.int s0)) (SC bo) im) : V mX9_voice d b 26 [some (.ref 0), some (.int l1), some (.int l2), some (.int l3), none] [.int s0] (SC bo) im Q := by
  exact V.iret rfl dX9_voice_26 hq
theorem bX9_voice_27 {d : Nat} {b : Nat × Nat} {bo : Bool} {im : XI} {Q : Option Value → XS → XI → Prop} {l1 : Int32} {l2 : Int32} {l3 : Int32} {i1 : Nat} {P : Int32 → XI → Prop} (g0 : l1 = nI i1) (g1 : i1 < 6) (hs : SpI mX8_say d [.ref 33, .ref (16 + i1), .int l1, .int l2, .int l3] (SC bo) im P) (k : ∀ x2 im2, P x2 im2 → V mX9_voice (d + 1) b 46 [some (.ref 0), some (.int l1), some (.int l2), some (.int l3), none] [.int x2] (SC bo) im2 Q) : V mX9_voice (d + 1) b 27 [some (.ref 0), some (.int l1), some (.int l2), some (.int l3), none] [] (SC bo) im Q := by
  refine V.aload_n dX9_voice_27 rfl rfl ?_
  refine V.getR fX9_41 rfl (by rfl) (by rfl) dX9_voice_28 ?_
  refine V.aload_n dX9_voice_31 rfl rfl ?_
  refine V.getR fX9_12 rfl (by rfl) (by rfl) dX9_voice_32 ?_
  refine V.getR fX9_74 rfl (by rfl) (by rfl) dX9_voice_35 ?_
  refine V.iload_n dX9_voice_38 rfl rfl ?_
  refine V.aald (i := i1) ⟨by rfl, by rfl, by rfl⟩ g0 g1 (xpeople g1) dX9_voice_39 ?_
  refine V.iload_n dX9_voice_40 rfl rfl ?_
  refine V.iload_n dX9_voice_41 rfl rfl ?_
  refine V.iload_n dX9_voice_42 rfl rfl ?_
  refine V.cVI rfl vX8_say lkX9_261 wX8_say (ci := 8) rfl (by rfl) (As := [.ref (16 + i1), .int l1, .int l2, .int l3]) rfl rfl rfl dX9_voice_43 hs (fun x2 im2 h2 => ?_)
  exact k x2 im2 h2
theorem bX9_voice_46 {d : Nat} {b : Nat × Nat} {bo : Bool} {im : XI} {Q : Option Value → XS → XI → Prop} {l1 : Int32} {l2 : Int32} {l3 : Int32} {s0 : Int32}  (kt : (im 33 1) = 0 → V mX9_voice d b 66 [some (.ref 0), some (.int l1), some (.int l2), some (.int l3), some (.int s0)] [] (SC bo) im Q) (kf : ¬ (im 33 1) = 0 → V mX9_voice d b 58 [some (.ref 0), some (.int l1), some (.int l2), some (.int l3), some (.int s0)] [] (SC bo) im Q) : V mX9_voice d b 46 [some (.ref 0), some (.int l1), some (.int l2), some (.int l3), none] [.int s0] (SC bo) im Q := by
  refine V.istore dX9_voice_46 rfl rfl ?_
  refine V.aload_n dX9_voice_48 rfl rfl ?_
  refine V.getR fX9_41 rfl (by rfl) (by rfl) dX9_voice_49 ?_
  refine V.getI fX9_265 rfl (by rfl) dX9_voice_52 ?_
  refine V.if_eq (tgt := 66) dX9_voice_55 (by decide) (fun h => ?_) (fun h => ?_)
  · exact kt h
  · exact kf h
theorem bX9_voice_58 {d : Nat} {b : Nat × Nat} {bo : Bool} {im : XI} {Q : Option Value → XS → XI → Prop} {l1 : Int32} {l2 : Int32} {l3 : Int32} {l4 : Int32} {P : Int32 → XI → Prop}  (hs : SpI mX9_fail d [.ref 0, .int (-1000000006 : Int32)] (SC bo) im P) (k : ∀ x2 im2, P x2 im2 → V mX9_voice (d + 1) b 65 [some (.ref 0), some (.int l1), some (.int l2), some (.int l3), some (.int l4)] [.int x2] (SC bo) im2 Q) : V mX9_voice (d + 1) b 58 [some (.ref 0), some (.int l1), some (.int l2), some (.int l3), some (.int l4)] [] (SC bo) im Q := by
  refine V.aload_n dX9_voice_58 rfl rfl ?_
  refine V.ldcw kX9_268 dX9_voice_59 ?_
  refine V.cVI rfl vX9_fail lkX9_65 wX9_fail (ci := 9) rfl (by rfl) (As := [.int (-1000000006 : Int32)]) rfl rfl rfl dX9_voice_62 hs (fun x2 im2 h2 => ?_)
  exact k x2 im2 h2
theorem bX9_voice_65 {d : Nat} {b : Nat × Nat} {bo : Bool} {im : XI} {Q : Option Value → XS → XI → Prop} {l1 : Int32} {l2 : Int32} {l3 : Int32} {l4 : Int32} {s0 : Int32}  (hq : Q (some (.int s0)) (SC bo) im) : V mX9_voice d b 65 [some (.ref 0), some (.int l1), some (.int l2), some (.int l3), some (.int l4)] [.int s0] (SC bo) im Q := by
  exact V.iret rfl dX9_voice_65 hq
theorem bX9_voice_66 {d : Nat} {b : Nat × Nat} {bo : Bool} {im : XI} {Q : Option Value → XS → XI → Prop} {l1 : Int32} {l2 : Int32} {l3 : Int32} {l4 : Int32}  (hq : Q (some (.int l4)) (SC bo) im) : V mX9_voice d b 66 [some (.ref 0), some (.int l1), some (.int l2), some (.int l3), some (.int l4)] [] (SC bo) im Q := by
  refine V.iload dX9_voice_66 rfl ?_
  exact V.iret rfl dX9_voice_68 hq
theorem bX9_body_0 {d : Nat} {b : Nat × Nat} {bo : Bool} {im : XI} {Q : Option Value → XS → XI → Prop} {l1 : Int32} {P : Int32 → XI → Prop}  (hs : SpI mX6_size d [.ref 34] (SC bo) im P) (k : ∀ x2 im2, P x2 im2 → V mX9_body (d + 1) b 12 [some (.ref 0), some (.int l1)] [.int x2, .int (0 : Int32), .int l1] (SC bo) im2 Q) : V mX9_body (d + 1) b 0 [some (.ref 0), some (.int l1)] [] (SC bo) im Q := by
  refine V.iload_n dX9_body_0 rfl rfl ?_
  refine V.iconst (v := 0) dX9_body_1 (by decide) ?_
  refine V.aload_n dX9_body_2 rfl rfl ?_
  refine V.getR fX9_41 rfl (by rfl) (by rfl) dX9_body_3 ?_
  refine V.getR fX9_269 rfl (by rfl) (by rfl) dX9_body_6 ?_
  refine V.cVI rfl vX6_size lkX9_150 wX6_size (ci := 6) rfl (by rfl) (As := []) rfl rfl rfl dX9_body_9 hs (fun x2 im2 h2 => ?_)
  exact k x2 im2 h2
theorem bX9_body_12 {d : Nat} {b : Nat × Nat} {bo : Bool} {im : XI} {Q : Option Value → XS → XI → Prop} {l1 : Int32} {s0 : Int32} {s1 : Int32} {s2 : Int32} {P : Int32 → XI → Prop}  (hs : SpI mX9_within d [.int s0, .int s1, .int (s2 - (1 : Int32))] (SC bo) im P) (k : ∀ x2 im2, P x2 im2 → V mX9_body (d + 1) b 17 [some (.ref 0), some (.int l1)] [.int x2] (SC bo) im2 Q) : V mX9_body (d + 1) b 12 [some (.ref 0), some (.int l1)] [.int s2, .int s1, .int s0] (SC bo) im Q := by
  refine V.iconst (v := 1) dX9_body_12 (by decide) ?_
  refine V.isub dX9_body_13 ?_
  refine V.cSI rfl vX9_within lkX9_93 sX9_within (As := [.int s0, .int s1, .int (s2 - (1 : Int32))]) rfl rfl rfl dX9_body_14 hs (fun x2 im2 h2 => ?_)
  exact k x2 im2 h2
theorem bX9_body_17 {d : Nat} {b : Nat × Nat} {bo : Bool} {im : XI} {Q : Option Value → XS → XI → Prop} {l1 : Int32} {s0 : Int32}  (kt : ¬ s0 = 0 → V mX9_body d b 27 [some (.ref 0), some (.int l1)] [] (SC bo) im Q) (kf : s0 = 0 → V mX9_body d b 20 [some (.ref 0), some (.int l1)] [] (SC bo) im Q) : V mX9_body d b 17 [some (.ref 0), some (.int l1)] [.int s0] (SC bo) im Q := by
  refine V.if_ne (tgt := 27) dX9_body_17 (by decide) (fun h => ?_) (fun h => ?_)
  · exact kt h
  · exact kf h
theorem bX9_body_20 {d : Nat} {b : Nat × Nat} {bo : Bool} {im : XI} {Q : Option Value → XS → XI → Prop} {l1 : Int32} {P : Int32 → XI → Prop}  (hs : SpI mX9_fail d [.ref 0, .int (-1000000002 : Int32)] (SC bo) im P) (k : ∀ x2 im2, P x2 im2 → V mX9_body (d + 1) b 26 [some (.ref 0), some (.int l1)] [.int x2] (SC bo) im2 Q) : V mX9_body (d + 1) b 20 [some (.ref 0), some (.int l1)] [] (SC bo) im Q := by
  refine V.aload_n dX9_body_20 rfl rfl ?_
  refine V.ldc kX9_212 dX9_body_21 ?_
  refine V.cVI rfl vX9_fail lkX9_65 wX9_fail (ci := 9) rfl (by rfl) (As := [.int (-1000000002 : Int32)]) rfl rfl rfl dX9_body_23 hs (fun x2 im2 h2 => ?_)
  exact k x2 im2 h2
theorem bX9_body_26 {d : Nat} {b : Nat × Nat} {bo : Bool} {im : XI} {Q : Option Value → XS → XI → Prop} {l1 : Int32} {s0 : Int32}  (hq : Q (some (.int s0)) (SC bo) im) : V mX9_body d b 26 [some (.ref 0), some (.int l1)] [.int s0] (SC bo) im Q := by
  exact V.iret rfl dX9_body_26 hq
theorem bX9_body_27 {d : Nat} {b : Nat × Nat} {bo : Bool} {im : XI} {Q : Option Value → XS → XI → Prop} {l1 : Int32} {P : Int32 → XI → Prop}  (hs : SpI mX6_at d [.ref 34, .int l1] (SC bo) im P) (k : ∀ x2 im2, P x2 im2 → V mX9_body (d + 1) b 38 [some (.ref 0), some (.int l1)] [.int x2] (SC bo) im2 Q) : V mX9_body (d + 1) b 27 [some (.ref 0), some (.int l1)] [] (SC bo) im Q := by
  refine V.aload_n dX9_body_27 rfl rfl ?_
  refine V.getR fX9_41 rfl (by rfl) (by rfl) dX9_body_28 ?_
  refine V.getR fX9_269 rfl (by rfl) (by rfl) dX9_body_31 ?_
  refine V.iload_n dX9_body_34 rfl rfl ?_
  refine V.cVI rfl vX6_at lkX9_272 wX6_at (ci := 6) rfl (by rfl) (As := [.int l1]) rfl rfl rfl dX9_body_35 hs (fun x2 im2 h2 => ?_)
  exact k x2 im2 h2
theorem bX9_body_38 {d : Nat} {b : Nat × Nat} {bo : Bool} {im : XI} {Q : Option Value → XS → XI → Prop} {l1 : Int32} {s0 : Int32}  (hq : Q (some (.int s0)) (SC bo) im) : V mX9_body d b 38 [some (.ref 0), some (.int l1)] [.int s0] (SC bo) im Q := by
  exact V.iret rfl dX9_body_38 hq
theorem bX9_sheet_0 {d : Nat} {b : Nat × Nat} {bo : Bool} {im : XI} {Q : Option Value → XS → XI → Prop} {l1 : Int32} {l2 : Int32} {l3 : Int32} {P : Int32 → XI → Prop}  (hs : SpI mX9_isSheet d [.int l1] (SC bo) im P) (k : ∀ x2 im2, P x2 im2 → V mX9_sheet (d + 1) b 4 [some (.ref 0), some (.int l1), some (.int l2), some (.int l3)] [.int x2] (SC bo) im2 Q) : V mX9_sheet (d + 1) b 0 [some (.ref 0), some (.int l1), some (.int l2), some (.int l3)] [] (SC bo) im Q := by
  refine V.iload_n dX9_sheet_0 rfl rfl ?_
  refine V.cSI rfl vX9_isSheet lkX9_241 sX9_isSheet (As := [.int l1]) rfl rfl rfl dX9_sheet_1 hs (fun x2 im2 h2 => ?_)
  exact k x2 im2 h2
theorem bX9_sheet_4 {d : Nat} {b : Nat × Nat} {bo : Bool} {im : XI} {Q : Option Value → XS → XI → Prop} {l1 : Int32} {l2 : Int32} {l3 : Int32} {s0 : Int32}  (kt : s0 = 0 → V mX9_sheet d b 29 [some (.ref 0), some (.int l1), some (.int l2), some (.int l3)] [] (SC bo) im Q) (kf : ¬ s0 = 0 → V mX9_sheet d b 7 [some (.ref 0), some (.int l1), some (.int l2), some (.int l3)] [] (SC bo) im Q) : V mX9_sheet d b 4 [some (.ref 0), some (.int l1), some (.int l2), some (.int l3)] [.int s0] (SC bo) im Q := by
  refine V.if_eq (tgt := 29) dX9_sheet_4 (by decide) (fun h => ?_) (fun h => ?_)
  · exact kt h
  · exact kf h
theorem bX9_sheet_7 {d : Nat} {b : Nat × Nat} {bo : Bool} {im : XI} {Q : Option Value → XS → XI → Prop} {l1 : Int32} {l2 : Int32} {l3 : Int32}  (kt : l2 = 0 → V mX9_sheet d b 36 [some (.ref 0), some (.int l1), some (.int l2), some (.int l3)] [] (SC bo) im Q) (kf : ¬ l2 = 0 → V mX9_sheet d b 11 [some (.ref 0), some (.int l1), some (.int l2), some (.int l3)] [] (SC bo) im Q) : V mX9_sheet d b 7 [some (.ref 0), some (.int l1), some (.int l2), some (.int l3)] [] (SC bo) im Q := by
  refine V.iload_n dX9_sheet_7 rfl rfl ?_
  refine V.if_eq (tgt := 36) dX9_sheet_8 (by decide) (fun h => ?_) (fun h => ?_)
  · exact kt h
  · exact kf h
theorem bX9_sheet_11 {d : Nat} {b : Nat × Nat} {bo : Bool} {im : XI} {Q : Option Value → XS → XI → Prop} {l1 : Int32} {l2 : Int32} {l3 : Int32}  (kt : l2 = (8 : Int32) → V mX9_sheet d b 36 [some (.ref 0), some (.int l1), some (.int l2), some (.int l3)] [] (SC bo) im Q) (kf : ¬ l2 = (8 : Int32) → V mX9_sheet d b 17 [some (.ref 0), some (.int l1), some (.int l2), some (.int l3)] [] (SC bo) im Q) : V mX9_sheet d b 11 [some (.ref 0), some (.int l1), some (.int l2), some (.int l3)] [] (SC bo) im Q := by
  refine V.iload_n dX9_sheet_11 rfl rfl ?_
  refine V.bipush (v := 8) dX9_sheet_12 (by decide) ?_
  refine V.icmp_eq (tgt := 36) dX9_sheet_14 (by decide) (fun h => ?_) (fun h => ?_)
  · exact kt h
  · exact kf h
theorem bX9_sheet_17 {d : Nat} {b : Nat × Nat} {bo : Bool} {im : XI} {Q : Option Value → XS → XI → Prop} {l1 : Int32} {l2 : Int32} {l3 : Int32}  (kt : l2 = (16 : Int32) → V mX9_sheet d b 36 [some (.ref 0), some (.int l1), some (.int l2), some (.int l3)] [] (SC bo) im Q) (kf : ¬ l2 = (16 : Int32) → V mX9_sheet d b 23 [some (.ref 0), some (.int l1), some (.int l2), some (.int l3)] [] (SC bo) im Q) : V mX9_sheet d b 17 [some (.ref 0), some (.int l1), some (.int l2), some (.int l3)] [] (SC bo) im Q := by
  refine V.iload_n dX9_sheet_17 rfl rfl ?_
  refine V.bipush (v := 16) dX9_sheet_18 (by decide) ?_
  refine V.icmp_eq (tgt := 36) dX9_sheet_20 (by decide) (fun h => ?_) (fun h => ?_)
  · exact kt h
  · exact kf h
theorem bX9_sheet_23 {d : Nat} {b : Nat × Nat} {bo : Bool} {im : XI} {Q : Option Value → XS → XI → Prop} {l1 : Int32} {l2 : Int32} {l3 : Int32}  (kt : l2 = (32 : Int32) → V mX9_sheet d b 36 [some (.ref 0), some (.int l1), some (.int l2), some (.int l3)] [] (SC bo) im Q) (kf : ¬ l2 = (32 : Int32) → V mX9_sheet d b 29 [some (.ref 0), some (.int l1), some (.int l2), some (.int l3)] [] (SC bo) im Q) : V mX9_sheet d b 23 [some (.ref 0), some (.int l1), some (.int l2), some (.int l3)] [] (SC bo) im Q := by
  refine V.iload_n dX9_sheet_23 rfl rfl ?_
  refine V.bipush (v := 32) dX9_sheet_24 (by decide) ?_
  refine V.icmp_eq (tgt := 36) dX9_sheet_26 (by decide) (fun h => ?_) (fun h => ?_)
  · exact kt h
  · exact kf h
theorem bX9_sheet_29 {d : Nat} {b : Nat × Nat} {bo : Bool} {im : XI} {Q : Option Value → XS → XI → Prop} {l1 : Int32} {l2 : Int32} {l3 : Int32} {P : Int32 → XI → Prop}  (hs : SpI mX9_fail d [.ref 0, .int (-1000000001 : Int32)] (SC bo) im P) (k : ∀ x2 im2, P x2 im2 → V mX9_sheet (d + 1) b 35 [some (.ref 0), some (.int l1), some (.int l2), some (.int l3)] [.int x2] (SC bo) im2 Q) : V mX9_sheet (d + 1) b 29 [some (.ref 0), some (.int l1), some (.int l2), some (.int l3)] [] (SC bo) im Q := by
  refine V.aload_n dX9_sheet_29 rfl rfl ?_
  refine V.ldc kX9_64 dX9_sheet_30 ?_
  refine V.cVI rfl vX9_fail lkX9_65 wX9_fail (ci := 9) rfl (by rfl) (As := [.int (-1000000001 : Int32)]) rfl rfl rfl dX9_sheet_32 hs (fun x2 im2 h2 => ?_)
  exact k x2 im2 h2
theorem bX9_sheet_35 {d : Nat} {b : Nat × Nat} {bo : Bool} {im : XI} {Q : Option Value → XS → XI → Prop} {l1 : Int32} {l2 : Int32} {l3 : Int32} {s0 : Int32}  (hq : Q (some (.int s0)) (SC bo) im) : V mX9_sheet d b 35 [some (.ref 0), some (.int l1), some (.int l2), some (.int l3)] [.int s0] (SC bo) im Q := by
  exact V.iret rfl dX9_sheet_35 hq
theorem bX9_sheet_36 {d : Nat} {b : Nat × Nat} {bo : Bool} {im : XI} {Q : Option Value → XS → XI → Prop} {l1 : Int32} {l2 : Int32} {l3 : Int32}  (kt : l2 = 0 → V mX9_sheet d b 51 [some (.ref 0), some (.int l1), some (.int l2), some (.int l3)] [] (SC bo) im Q) (kf : ¬ l2 = 0 → V mX9_sheet d b 40 [some (.ref 0), some (.int l1), some (.int l2), some (.int l3)] [] (SC bo) im Q) : V mX9_sheet d b 36 [some (.ref 0), some (.int l1), some (.int l2), some (.int l3)] [] (SC bo) im Q := by
  refine V.iload_n dX9_sheet_36 rfl rfl ?_
  refine V.if_eq (tgt := 51) dX9_sheet_37 (by decide) (fun h => ?_) (fun h => ?_)
  · exact kt h
  · exact kf h
theorem bX9_sheet_40 {d : Nat} {b : Nat × Nat} {bo : Bool} {im : XI} {Q : Option Value → XS → XI → Prop} {l1 : Int32} {l2 : Int32} {l3 : Int32}  (kt : 0 ≤ l3 → V mX9_sheet d b 51 [some (.ref 0), some (.int l1), some (.int l2), some (.int l3)] [] (SC bo) im Q) (kf : ¬ 0 ≤ l3 → V mX9_sheet d b 44 [some (.ref 0), some (.int l1), some (.int l2), some (.int l3)] [] (SC bo) im Q) : V mX9_sheet d b 40 [some (.ref 0), some (.int l1), some (.int l2), some (.int l3)] [] (SC bo) im Q := by
  refine V.iload_n dX9_sheet_40 rfl rfl ?_
  refine V.if_ge (tgt := 51) dX9_sheet_41 (by decide) (fun h => ?_) (fun h => ?_)
  · exact kt h
  · exact kf h
theorem bX9_sheet_44 {d : Nat} {b : Nat × Nat} {bo : Bool} {im : XI} {Q : Option Value → XS → XI → Prop} {l1 : Int32} {l2 : Int32} {l3 : Int32} {P : Int32 → XI → Prop}  (hs : SpI mX9_fail d [.ref 0, .int (-1000000003 : Int32)] (SC bo) im P) (k : ∀ x2 im2, P x2 im2 → V mX9_sheet (d + 1) b 50 [some (.ref 0), some (.int l1), some (.int l2), some (.int l3)] [.int x2] (SC bo) im2 Q) : V mX9_sheet (d + 1) b 44 [some (.ref 0), some (.int l1), some (.int l2), some (.int l3)] [] (SC bo) im Q := by
  refine V.aload_n dX9_sheet_44 rfl rfl ?_
  refine V.ldc kX9_194 dX9_sheet_45 ?_
  refine V.cVI rfl vX9_fail lkX9_65 wX9_fail (ci := 9) rfl (by rfl) (As := [.int (-1000000003 : Int32)]) rfl rfl rfl dX9_sheet_47 hs (fun x2 im2 h2 => ?_)
  exact k x2 im2 h2
theorem bX9_sheet_50 {d : Nat} {b : Nat × Nat} {bo : Bool} {im : XI} {Q : Option Value → XS → XI → Prop} {l1 : Int32} {l2 : Int32} {l3 : Int32} {s0 : Int32}  (hq : Q (some (.int s0)) (SC bo) im) : V mX9_sheet d b 50 [some (.ref 0), some (.int l1), some (.int l2), some (.int l3)] [.int s0] (SC bo) im Q := by
  exact V.iret rfl dX9_sheet_50 hq
theorem bX9_sheet_51 {d : Nat} {b : Nat × Nat} {bo : Bool} {im : XI} {Q : Option Value → XS → XI → Prop} {l1 : Int32} {l2 : Int32} {l3 : Int32}  (kt : l2 = 0 → V mX9_sheet d b 68 [some (.ref 0), some (.int l1), some (.int l2), some (.int l3)] [] (SC bo) im Q) (kf : ¬ l2 = 0 → V mX9_sheet d b 55 [some (.ref 0), some (.int l1), some (.int l2), some (.int l3)] [] (SC bo) im Q) : V mX9_sheet d b 51 [some (.ref 0), some (.int l1), some (.int l2), some (.int l3)] [] (SC bo) im Q := by
  refine V.iload_n dX9_sheet_51 rfl rfl ?_
  refine V.if_eq (tgt := 68) dX9_sheet_52 (by decide) (fun h => ?_) (fun h => ?_)
  · exact kt h
  · exact kf h
theorem bX9_sheet_55 {d : Nat} {b : Nat × Nat} {bo : Bool} {im : XI} {Q : Option Value → XS → XI → Prop} {l1 : Int32} {l2 : Int32} {l3 : Int32}  (kt : l3 ≤ (24 : Int32) → V mX9_sheet d b 68 [some (.ref 0), some (.int l1), some (.int l2), some (.int l3)] [] (SC bo) im Q) (kf : ¬ l3 ≤ (24 : Int32) → V mX9_sheet d b 61 [some (.ref 0), some (.int l1), some (.int l2), some (.int l3)] [] (SC bo) im Q) : V mX9_sheet d b 55 [some (.ref 0), some (.int l1), some (.int l2), some (.int l3)] [] (SC bo) im Q := by
  refine V.iload_n dX9_sheet_55 rfl rfl ?_
  refine V.bipush (v := 24) dX9_sheet_56 (by decide) ?_
  refine V.icmp_le (tgt := 68) dX9_sheet_58 (by decide) (fun h => ?_) (fun h => ?_)
  · exact kt h
  · exact kf h
theorem bX9_sheet_61 {d : Nat} {b : Nat × Nat} {bo : Bool} {im : XI} {Q : Option Value → XS → XI → Prop} {l1 : Int32} {l2 : Int32} {l3 : Int32} {P : Int32 → XI → Prop}  (hs : SpI mX9_fail d [.ref 0, .int (-1000000001 : Int32)] (SC bo) im P) (k : ∀ x2 im2, P x2 im2 → V mX9_sheet (d + 1) b 67 [some (.ref 0), some (.int l1), some (.int l2), some (.int l3)] [.int x2] (SC bo) im2 Q) : V mX9_sheet (d + 1) b 61 [some (.ref 0), some (.int l1), some (.int l2), some (.int l3)] [] (SC bo) im Q := by
  refine V.aload_n dX9_sheet_61 rfl rfl ?_
  refine V.ldc kX9_64 dX9_sheet_62 ?_
  refine V.cVI rfl vX9_fail lkX9_65 wX9_fail (ci := 9) rfl (by rfl) (As := [.int (-1000000001 : Int32)]) rfl rfl rfl dX9_sheet_64 hs (fun x2 im2 h2 => ?_)
  exact k x2 im2 h2
theorem bX9_sheet_67 {d : Nat} {b : Nat × Nat} {bo : Bool} {im : XI} {Q : Option Value → XS → XI → Prop} {l1 : Int32} {l2 : Int32} {l3 : Int32} {s0 : Int32}  (hq : Q (some (.int s0)) (SC bo) im) : V mX9_sheet d b 67 [some (.ref 0), some (.int l1), some (.int l2), some (.int l3)] [.int s0] (SC bo) im Q := by
  exact V.iret rfl dX9_sheet_67 hq
theorem bX9_sheet_68 {d : Nat} {b : Nat × Nat} {bo : Bool} {im : XI} {Q : Option Value → XS → XI → Prop} {l1 : Int32} {l2 : Int32} {l3 : Int32} {i1 : Nat} (g0 : l1 = nI i1) (g1 : i1 < 4) (kt : ¬ l2 = 0 → V mX9_sheet d b 83 [some (.ref 0), some (.int l1), some (.int l2), some (.int l3)] [.int l2, .ref (38 + 3 * i1)] (SC bo) im Q) (kf : l2 = 0 → V mX9_sheet d b 79 [some (.ref 0), some (.int l1), some (.int l2), some (.int l3)] [.int l2, .ref (38 + 3 * i1)] (SC bo) im Q) : V mX9_sheet d b 68 [some (.ref 0), some (.int l1), some (.int l2), some (.int l3)] [] (SC bo) im Q := by
  refine V.aload_n dX9_sheet_68 rfl rfl ?_
  refine V.getR fX9_47 rfl (by rfl) (by rfl) dX9_sheet_69 ?_
  refine V.iload_n dX9_sheet_72 rfl rfl ?_
  refine V.aald (i := i1) ⟨by rfl, by rfl, by rfl⟩ g0 g1 (xsheets g1) dX9_sheet_73 ?_
  refine V.iload_n dX9_sheet_74 rfl rfl ?_
  refine V.iload_n dX9_sheet_75 rfl rfl ?_
  refine V.if_ne (tgt := 83) dX9_sheet_76 (by decide) (fun h => ?_) (fun h => ?_)
  · exact kt h
  · exact kf h
theorem bX9_sheet_79 {d : Nat} {b : Nat × Nat} {bo : Bool} {im : XI} {Q : Option Value → XS → XI → Prop} {l1 : Int32} {l2 : Int32} {l3 : Int32} {s0 : Nat} {s1 : Int32}  (k : V mX9_sheet d b 84 [some (.ref 0), some (.int l1), some (.int l2), some (.int l3)] [.int (0 : Int32), .int s1, .ref s0] (SC bo) im Q) : V mX9_sheet d b 79 [some (.ref 0), some (.int l1), some (.int l2), some (.int l3)] [.int s1, .ref s0] (SC bo) im Q := by
  refine V.iconst (v := 0) dX9_sheet_79 (by decide) ?_
  refine V.goto (tgt := 84) dX9_sheet_80 (by decide) ?_
  exact k
theorem bX9_sheet_83 {d : Nat} {b : Nat × Nat} {bo : Bool} {im : XI} {Q : Option Value → XS → XI → Prop} {l1 : Int32} {l2 : Int32} {l3 : Int32} {s0 : Nat} {s1 : Int32}  (k : V mX9_sheet d b 84 [some (.ref 0), some (.int l1), some (.int l2), some (.int l3)] [.int l3, .int s1, .ref s0] (SC bo) im Q) : V mX9_sheet d b 83 [some (.ref 0), some (.int l1), some (.int l2), some (.int l3)] [.int s1, .ref s0] (SC bo) im Q := by
  refine V.iload_n dX9_sheet_83 rfl rfl ?_
  exact k
theorem bX9_sheet_84 {d : Nat} {b : Nat × Nat} {bo : Bool} {im : XI} {Q : Option Value → XS → XI → Prop} {l1 : Int32} {l2 : Int32} {l3 : Int32} {s0 : Nat} {s1 : Int32} {s2 : Int32} {P : XI → Prop} (g0 : (SC bo).1[s0]? = some (.inl 7)) (hs : SpV mX7_renew d [.ref s0, .int s1, .int s2] (SC bo) im P) (k : ∀ im2, P im2 → V mX9_sheet (d + 1) b 87 [some (.ref 0), some (.int l1), some (.int l2), some (.int l3)] [] (SC bo) im2 Q) : V mX9_sheet (d + 1) b 84 [some (.ref 0), some (.int l1), some (.int l2), some (.int l3)] [.int s2, .int s1, .ref s0] (SC bo) im Q := by
  refine V.cVV rfl vX7_renew lkX9_275 wX7_renew (ci := 7) rfl g0 (As := [.int s1, .int s2]) rfl rfl rfl dX9_sheet_84 hs (fun im2 h2 => ?_)
  exact k im2 h2
theorem bX9_sheet_87 {d : Nat} {b : Nat × Nat} {bo : Bool} {im : XI} {Q : Option Value → XS → XI → Prop} {l1 : Int32} {l2 : Int32} {l3 : Int32}  (hq : Q (some (.int (1 : Int32))) (SC bo) im) : V mX9_sheet d b 87 [some (.ref 0), some (.int l1), some (.int l2), some (.int l3)] [] (SC bo) im Q := by
  refine V.iconst (v := 1) dX9_sheet_87 (by decide) ?_
  exact V.iret rfl dX9_sheet_88 hq
theorem bX9_put_0 {d : Nat} {b : Nat × Nat} {bo : Bool} {im : XI} {Q : Option Value → XS → XI → Prop} {l1 : Int32} {l2 : Int32} {l3 : Int32} {P : Int32 → XI → Prop}  (hs : SpI mX9_isSheet d [.int l1] (SC bo) im P) (k : ∀ x2 im2, P x2 im2 → V mX9_put (d + 1) b 4 [some (.ref 0), some (.int l1), some (.int l2), some (.int l3), none] [.int x2] (SC bo) im2 Q) : V mX9_put (d + 1) b 0 [some (.ref 0), some (.int l1), some (.int l2), some (.int l3), none] [] (SC bo) im Q := by
  refine V.iload_n dX9_put_0 rfl rfl ?_
  refine V.cSI rfl vX9_isSheet lkX9_241 sX9_isSheet (As := [.int l1]) rfl rfl rfl dX9_put_1 hs (fun x2 im2 h2 => ?_)
  exact k x2 im2 h2
theorem bX9_put_4 {d : Nat} {b : Nat × Nat} {bo : Bool} {im : XI} {Q : Option Value → XS → XI → Prop} {l1 : Int32} {l2 : Int32} {l3 : Int32} {s0 : Int32}  (kt : ¬ s0 = 0 → V mX9_put d b 14 [some (.ref 0), some (.int l1), some (.int l2), some (.int l3), none] [] (SC bo) im Q) (kf : s0 = 0 → V mX9_put d b 7 [some (.ref 0), some (.int l1), some (.int l2), some (.int l3), none] [] (SC bo) im Q) : V mX9_put d b 4 [some (.ref 0), some (.int l1), some (.int l2), some (.int l3), none] [.int s0] (SC bo) im Q := by
  refine V.if_ne (tgt := 14) dX9_put_4 (by decide) (fun h => ?_) (fun h => ?_)
  · exact kt h
  · exact kf h
theorem bX9_put_7 {d : Nat} {b : Nat × Nat} {bo : Bool} {im : XI} {Q : Option Value → XS → XI → Prop} {l1 : Int32} {l2 : Int32} {l3 : Int32} {P : Int32 → XI → Prop}  (hs : SpI mX9_fail d [.ref 0, .int (-1000000001 : Int32)] (SC bo) im P) (k : ∀ x2 im2, P x2 im2 → V mX9_put (d + 1) b 13 [some (.ref 0), some (.int l1), some (.int l2), some (.int l3), none] [.int x2] (SC bo) im2 Q) : V mX9_put (d + 1) b 7 [some (.ref 0), some (.int l1), some (.int l2), some (.int l3), none] [] (SC bo) im Q := by
  refine V.aload_n dX9_put_7 rfl rfl ?_
  refine V.ldc kX9_64 dX9_put_8 ?_
  refine V.cVI rfl vX9_fail lkX9_65 wX9_fail (ci := 9) rfl (by rfl) (As := [.int (-1000000001 : Int32)]) rfl rfl rfl dX9_put_10 hs (fun x2 im2 h2 => ?_)
  exact k x2 im2 h2
theorem bX9_put_13 {d : Nat} {b : Nat × Nat} {bo : Bool} {im : XI} {Q : Option Value → XS → XI → Prop} {l1 : Int32} {l2 : Int32} {l3 : Int32} {s0 : Int32}  (hq : Q (some (.int s0)) (SC bo) im) : V mX9_put d b 13 [some (.ref 0), some (.int l1), some (.int l2), some (.int l3), none] [.int s0] (SC bo) im Q := by
  exact V.iret rfl dX9_put_13 hq
theorem bX9_put_14 {d : Nat} {b : Nat × Nat} {bo : Bool} {im : XI} {Q : Option Value → XS → XI → Prop} {l1 : Int32} {l2 : Int32} {l3 : Int32} {i1 : Nat} {P : Int32 → XI → Prop} (g0 : l1 = nI i1) (g1 : i1 < 4) (hs : SpI mX7_isMissing d [.ref (38 + 3 * i1)] (SC bo) im P) (k : ∀ x2 im2, P x2 im2 → V mX9_put (d + 1) b 27 [some (.ref 0), some (.int l1), some (.int l2), some (.int l3), some (.ref (38 + 3 * i1))] [.int x2] (SC bo) im2 Q) : V mX9_put (d + 1) b 14 [some (.ref 0), some (.int l1), some (.int l2), some (.int l3), none] [] (SC bo) im Q := by
  refine V.aload_n dX9_put_14 rfl rfl ?_
  refine V.getR fX9_47 rfl (by rfl) (by rfl) dX9_put_15 ?_
  refine V.iload_n dX9_put_18 rfl rfl ?_
  refine V.aald (i := i1) ⟨by rfl, by rfl, by rfl⟩ g0 g1 (xsheets g1) dX9_put_19 ?_
  refine V.astore dX9_put_20 rfl rfl ?_
  refine V.aload dX9_put_22 rfl ?_
  refine V.cVI rfl vX7_isMissing lkX9_244 wX7_isMissing (ci := 7) rfl (xsheet g1) (As := []) rfl rfl rfl dX9_put_24 hs (fun x2 im2 h2 => ?_)
  exact k x2 im2 h2
theorem bX9_put_27 {d : Nat} {b : Nat × Nat} {bo : Bool} {im : XI} {Q : Option Value → XS → XI → Prop} {l1 : Int32} {l2 : Int32} {l3 : Int32} {l4 : Nat} {s0 : Int32}  (kt : s0 = 0 → V mX9_put d b 37 [some (.ref 0), some (.int l1), some (.int l2), some (.int l3), some (.ref l4)] [] (SC bo) im Q) (kf : ¬ s0 = 0 → V mX9_put d b 30 [some (.ref 0), some (.int l1), some (.int l2), some (.int l3), some (.ref l4)] [] (SC bo) im Q) : V mX9_put d b 27 [some (.ref 0), some (.int l1), some (.int l2), some (.int l3), some (.ref l4)] [.int s0] (SC bo) im Q := by
  refine V.if_eq (tgt := 37) dX9_put_27 (by decide) (fun h => ?_) (fun h => ?_)
  · exact kt h
  · exact kf h
theorem bX9_put_30 {d : Nat} {b : Nat × Nat} {bo : Bool} {im : XI} {Q : Option Value → XS → XI → Prop} {l1 : Int32} {l2 : Int32} {l3 : Int32} {l4 : Nat} {P : Int32 → XI → Prop}  (hs : SpI mX9_fail d [.ref 0, .int (-1000000002 : Int32)] (SC bo) im P) (k : ∀ x2 im2, P x2 im2 → V mX9_put (d + 1) b 36 [some (.ref 0), some (.int l1), some (.int l2), some (.int l3), some (.ref l4)] [.int x2] (SC bo) im2 Q) : V mX9_put (d + 1) b 30 [some (.ref 0), some (.int l1), some (.int l2), some (.int l3), some (.ref l4)] [] (SC bo) im Q := by
  refine V.aload_n dX9_put_30 rfl rfl ?_
  refine V.ldc kX9_212 dX9_put_31 ?_
  refine V.cVI rfl vX9_fail lkX9_65 wX9_fail (ci := 9) rfl (by rfl) (As := [.int (-1000000002 : Int32)]) rfl rfl rfl dX9_put_33 hs (fun x2 im2 h2 => ?_)
  exact k x2 im2 h2
theorem bX9_put_36 {d : Nat} {b : Nat × Nat} {bo : Bool} {im : XI} {Q : Option Value → XS → XI → Prop} {l1 : Int32} {l2 : Int32} {l3 : Int32} {l4 : Nat} {s0 : Int32}  (hq : Q (some (.int s0)) (SC bo) im) : V mX9_put d b 36 [some (.ref 0), some (.int l1), some (.int l2), some (.int l3), some (.ref l4)] [.int s0] (SC bo) im Q := by
  exact V.iret rfl dX9_put_36 hq
theorem bX9_put_37 {d : Nat} {b : Nat × Nat} {bo : Bool} {im : XI} {Q : Option Value → XS → XI → Prop} {l1 : Int32} {l2 : Int32} {l3 : Int32} {l4 : Nat} {r1 : Nat} {P : Int32 → XI → Prop} (g0 : (SC bo).1[l4]? = some (.inl 7)) (g1 : (SC bo).2 l4 0 = some r1) (g2 : (SC bo).1[r1]? = some (.inl 6)) (hs : SpI mX6_size d [.ref r1] (SC bo) im P) (k : ∀ x2 im2, P x2 im2 → V mX9_put (d + 1) b 47 [some (.ref 0), some (.int l1), some (.int l2), some (.int l3), some (.ref l4)] [.int x2, .int (0 : Int32), .int l2] (SC bo) im2 Q) : V mX9_put (d + 1) b 37 [some (.ref 0), some (.int l1), some (.int l2), some (.int l3), some (.ref l4)] [] (SC bo) im Q := by
  refine V.iload_n dX9_put_37 rfl rfl ?_
  refine V.iconst (v := 0) dX9_put_38 (by decide) ?_
  refine V.aload dX9_put_39 rfl ?_
  refine V.getR fX9_248 rfl g0 g1 dX9_put_41 ?_
  refine V.cVI rfl vX6_size lkX9_150 wX6_size (ci := 6) rfl g2 (As := []) rfl rfl rfl dX9_put_44 hs (fun x2 im2 h2 => ?_)
  exact k x2 im2 h2
theorem bX9_put_47 {d : Nat} {b : Nat × Nat} {bo : Bool} {im : XI} {Q : Option Value → XS → XI → Prop} {l1 : Int32} {l2 : Int32} {l3 : Int32} {l4 : Nat} {s0 : Int32} {s1 : Int32} {s2 : Int32} {P : Int32 → XI → Prop}  (hs : SpI mX9_within d [.int s0, .int s1, .int (s2 - (1 : Int32))] (SC bo) im P) (k : ∀ x2 im2, P x2 im2 → V mX9_put (d + 1) b 52 [some (.ref 0), some (.int l1), some (.int l2), some (.int l3), some (.ref l4)] [.int x2] (SC bo) im2 Q) : V mX9_put (d + 1) b 47 [some (.ref 0), some (.int l1), some (.int l2), some (.int l3), some (.ref l4)] [.int s2, .int s1, .int s0] (SC bo) im Q := by
  refine V.iconst (v := 1) dX9_put_47 (by decide) ?_
  refine V.isub dX9_put_48 ?_
  refine V.cSI rfl vX9_within lkX9_93 sX9_within (As := [.int s0, .int s1, .int (s2 - (1 : Int32))]) rfl rfl rfl dX9_put_49 hs (fun x2 im2 h2 => ?_)
  exact k x2 im2 h2
theorem bX9_put_52 {d : Nat} {b : Nat × Nat} {bo : Bool} {im : XI} {Q : Option Value → XS → XI → Prop} {l1 : Int32} {l2 : Int32} {l3 : Int32} {l4 : Nat} {s0 : Int32}  (kt : ¬ s0 = 0 → V mX9_put d b 62 [some (.ref 0), some (.int l1), some (.int l2), some (.int l3), some (.ref l4)] [] (SC bo) im Q) (kf : s0 = 0 → V mX9_put d b 55 [some (.ref 0), some (.int l1), some (.int l2), some (.int l3), some (.ref l4)] [] (SC bo) im Q) : V mX9_put d b 52 [some (.ref 0), some (.int l1), some (.int l2), some (.int l3), some (.ref l4)] [.int s0] (SC bo) im Q := by
  refine V.if_ne (tgt := 62) dX9_put_52 (by decide) (fun h => ?_) (fun h => ?_)
  · exact kt h
  · exact kf h
theorem bX9_put_55 {d : Nat} {b : Nat × Nat} {bo : Bool} {im : XI} {Q : Option Value → XS → XI → Prop} {l1 : Int32} {l2 : Int32} {l3 : Int32} {l4 : Nat} {P : Int32 → XI → Prop}  (hs : SpI mX9_fail d [.ref 0, .int (-1000000001 : Int32)] (SC bo) im P) (k : ∀ x2 im2, P x2 im2 → V mX9_put (d + 1) b 61 [some (.ref 0), some (.int l1), some (.int l2), some (.int l3), some (.ref l4)] [.int x2] (SC bo) im2 Q) : V mX9_put (d + 1) b 55 [some (.ref 0), some (.int l1), some (.int l2), some (.int l3), some (.ref l4)] [] (SC bo) im Q := by
  refine V.aload_n dX9_put_55 rfl rfl ?_
  refine V.ldc kX9_64 dX9_put_56 ?_
  refine V.cVI rfl vX9_fail lkX9_65 wX9_fail (ci := 9) rfl (by rfl) (As := [.int (-1000000001 : Int32)]) rfl rfl rfl dX9_put_58 hs (fun x2 im2 h2 => ?_)
  exact k x2 im2 h2
theorem bX9_put_61 {d : Nat} {b : Nat × Nat} {bo : Bool} {im : XI} {Q : Option Value → XS → XI → Prop} {l1 : Int32} {l2 : Int32} {l3 : Int32} {l4 : Nat} {s0 : Int32}  (hq : Q (some (.int s0)) (SC bo) im) : V mX9_put d b 61 [some (.ref 0), some (.int l1), some (.int l2), some (.int l3), some (.ref l4)] [.int s0] (SC bo) im Q := by
  exact V.iret rfl dX9_put_61 hq
theorem bX9_put_62 {d : Nat} {b : Nat × Nat} {bo : Bool} {im : XI} {Q : Option Value → XS → XI → Prop} {l1 : Int32} {l2 : Int32} {l3 : Int32} {l4 : Nat} {r1 : Nat} {P : Int32 → XI → Prop} (g0 : (SC bo).1[l4]? = some (.inl 7)) (g1 : (SC bo).2 l4 0 = some r1) (hs : SpI mX7_lowestBits d [.ref l4, .int l3] (SC bo) im P) (k : ∀ x2 im2, P x2 im2 → V mX9_put (d + 1) b 74 [some (.ref 0), some (.int l1), some (.int l2), some (.int l3), some (.ref l4)] [.int x2, .int l2, .ref r1] (SC bo) im2 Q) : V mX9_put (d + 1) b 62 [some (.ref 0), some (.int l1), some (.int l2), some (.int l3), some (.ref l4)] [] (SC bo) im Q := by
  refine V.aload dX9_put_62 rfl ?_
  refine V.getR fX9_248 rfl g0 g1 dX9_put_64 ?_
  refine V.iload_n dX9_put_67 rfl rfl ?_
  refine V.aload dX9_put_68 rfl ?_
  refine V.iload_n dX9_put_70 rfl rfl ?_
  refine V.cVI rfl vX7_lowestBits lkX9_279 wX7_lowestBits (ci := 7) rfl g0 (As := [.int l3]) rfl rfl rfl dX9_put_71 hs (fun x2 im2 h2 => ?_)
  exact k x2 im2 h2
theorem bX9_put_74 {d : Nat} {b : Nat × Nat} {bo : Bool} {im : XI} {Q : Option Value → XS → XI → Prop} {l1 : Int32} {l2 : Int32} {l3 : Int32} {l4 : Nat} {s0 : Nat} {s1 : Int32} {s2 : Int32} {P : XI → Prop} (g0 : (SC bo).1[s0]? = some (.inl 6)) (hs : SpV mX6_change d [.ref s0, .int s1, .int s2] (SC bo) im P) (k : ∀ im2, P im2 → V mX9_put (d + 1) b 77 [some (.ref 0), some (.int l1), some (.int l2), some (.int l3), some (.ref l4)] [] (SC bo) im2 Q) : V mX9_put (d + 1) b 74 [some (.ref 0), some (.int l1), some (.int l2), some (.int l3), some (.ref l4)] [.int s2, .int s1, .ref s0] (SC bo) im Q := by
  refine V.cVV rfl vX6_change lkX9_282 wX6_change (ci := 6) rfl g0 (As := [.int s1, .int s2]) rfl rfl rfl dX9_put_74 hs (fun im2 h2 => ?_)
  exact k im2 h2
theorem bX9_put_77 {d : Nat} {b : Nat × Nat} {bo : Bool} {im : XI} {Q : Option Value → XS → XI → Prop} {l1 : Int32} {l2 : Int32} {l3 : Int32} {l4 : Nat}  (hq : Q (some (.int (1 : Int32))) (SC bo) im) : V mX9_put d b 77 [some (.ref 0), some (.int l1), some (.int l2), some (.int l3), some (.ref l4)] [] (SC bo) im Q := by
  refine V.iconst (v := 1) dX9_put_77 (by decide) ?_
  exact V.iret rfl dX9_put_78 hq
theorem bX9_move_0 {d : Nat} {b : Nat × Nat} {bo : Bool} {im : XI} {Q : Option Value → XS → XI → Prop} {l1 : Int32} {l2 : Int32} {l3 : Int32} {l4 : Int32} {l5 : Int32} {P : Int32 → XI → Prop}  (hs : SpI mX9_isSheet d [.int l1] (SC bo) im P) (k : ∀ x2 im2, P x2 im2 → V mX9_move (d + 1) b 4 [some (.ref 0), some (.int l1), some (.int l2), some (.int l3), some (.int l4), some (.int l5), none, none] [.int x2] (SC bo) im2 Q) : V mX9_move (d + 1) b 0 [some (.ref 0), some (.int l1), some (.int l2), some (.int l3), some (.int l4), some (.int l5), none, none] [] (SC bo) im Q := by
  refine V.iload_n dX9_move_0 rfl rfl ?_
  refine V.cSI rfl vX9_isSheet lkX9_241 sX9_isSheet (As := [.int l1]) rfl rfl rfl dX9_move_1 hs (fun x2 im2 h2 => ?_)
  exact k x2 im2 h2
theorem bX9_move_4 {d : Nat} {b : Nat × Nat} {bo : Bool} {im : XI} {Q : Option Value → XS → XI → Prop} {l1 : Int32} {l2 : Int32} {l3 : Int32} {l4 : Int32} {l5 : Int32} {s0 : Int32}  (kt : s0 = 0 → V mX9_move d b 14 [some (.ref 0), some (.int l1), some (.int l2), some (.int l3), some (.int l4), some (.int l5), none, none] [] (SC bo) im Q) (kf : ¬ s0 = 0 → V mX9_move d b 7 [some (.ref 0), some (.int l1), some (.int l2), some (.int l3), some (.int l4), some (.int l5), none, none] [] (SC bo) im Q) : V mX9_move d b 4 [some (.ref 0), some (.int l1), some (.int l2), some (.int l3), some (.int l4), some (.int l5), none, none] [.int s0] (SC bo) im Q := by
  refine V.if_eq (tgt := 14) dX9_move_4 (by decide) (fun h => ?_) (fun h => ?_)
  · exact kt h
  · exact kf h
theorem bX9_move_7 {d : Nat} {b : Nat × Nat} {bo : Bool} {im : XI} {Q : Option Value → XS → XI → Prop} {l1 : Int32} {l2 : Int32} {l3 : Int32} {l4 : Int32} {l5 : Int32} {P : Int32 → XI → Prop}  (hs : SpI mX9_isSheet d [.int l3] (SC bo) im P) (k : ∀ x2 im2, P x2 im2 → V mX9_move (d + 1) b 11 [some (.ref 0), some (.int l1), some (.int l2), some (.int l3), some (.int l4), some (.int l5), none, none] [.int x2] (SC bo) im2 Q) : V mX9_move (d + 1) b 7 [some (.ref 0), some (.int l1), some (.int l2), some (.int l3), some (.int l4), some (.int l5), none, none] [] (SC bo) im Q := by
  refine V.iload_n dX9_move_7 rfl rfl ?_
  refine V.cSI rfl vX9_isSheet lkX9_241 sX9_isSheet (As := [.int l3]) rfl rfl rfl dX9_move_8 hs (fun x2 im2 h2 => ?_)
  exact k x2 im2 h2
theorem bX9_move_11 {d : Nat} {b : Nat × Nat} {bo : Bool} {im : XI} {Q : Option Value → XS → XI → Prop} {l1 : Int32} {l2 : Int32} {l3 : Int32} {l4 : Int32} {l5 : Int32} {s0 : Int32}  (kt : ¬ s0 = 0 → V mX9_move d b 21 [some (.ref 0), some (.int l1), some (.int l2), some (.int l3), some (.int l4), some (.int l5), none, none] [] (SC bo) im Q) (kf : s0 = 0 → V mX9_move d b 14 [some (.ref 0), some (.int l1), some (.int l2), some (.int l3), some (.int l4), some (.int l5), none, none] [] (SC bo) im Q) : V mX9_move d b 11 [some (.ref 0), some (.int l1), some (.int l2), some (.int l3), some (.int l4), some (.int l5), none, none] [.int s0] (SC bo) im Q := by
  refine V.if_ne (tgt := 21) dX9_move_11 (by decide) (fun h => ?_) (fun h => ?_)
  · exact kt h
  · exact kf h
theorem bX9_move_14 {d : Nat} {b : Nat × Nat} {bo : Bool} {im : XI} {Q : Option Value → XS → XI → Prop} {l1 : Int32} {l2 : Int32} {l3 : Int32} {l4 : Int32} {l5 : Int32} {P : Int32 → XI → Prop}  (hs : SpI mX9_fail d [.ref 0, .int (-1000000001 : Int32)] (SC bo) im P) (k : ∀ x2 im2, P x2 im2 → V mX9_move (d + 1) b 20 [some (.ref 0), some (.int l1), some (.int l2), some (.int l3), some (.int l4), some (.int l5), none, none] [.int x2] (SC bo) im2 Q) : V mX9_move (d + 1) b 14 [some (.ref 0), some (.int l1), some (.int l2), some (.int l3), some (.int l4), some (.int l5), none, none] [] (SC bo) im Q := by
  refine V.aload_n dX9_move_14 rfl rfl ?_
  refine V.ldc kX9_64 dX9_move_15 ?_
  refine V.cVI rfl vX9_fail lkX9_65 wX9_fail (ci := 9) rfl (by rfl) (As := [.int (-1000000001 : Int32)]) rfl rfl rfl dX9_move_17 hs (fun x2 im2 h2 => ?_)
  exact k x2 im2 h2
theorem bX9_move_20 {d : Nat} {b : Nat × Nat} {bo : Bool} {im : XI} {Q : Option Value → XS → XI → Prop} {l1 : Int32} {l2 : Int32} {l3 : Int32} {l4 : Int32} {l5 : Int32} {s0 : Int32}  (hq : Q (some (.int s0)) (SC bo) im) : V mX9_move d b 20 [some (.ref 0), some (.int l1), some (.int l2), some (.int l3), some (.int l4), some (.int l5), none, none] [.int s0] (SC bo) im Q := by
  exact V.iret rfl dX9_move_20 hq
theorem bX9_move_21 {d : Nat} {b : Nat × Nat} {bo : Bool} {im : XI} {Q : Option Value → XS → XI → Prop} {l1 : Int32} {l2 : Int32} {l3 : Int32} {l4 : Int32} {l5 : Int32} {i1 : Nat} {i2 : Nat} {P : Int32 → XI → Prop} (g0 : l1 = nI i1) (g1 : i1 < 4) (g2 : l3 = nI i2) (g3 : i2 < 4) (hs : SpI mX7_isMissing d [.ref (38 + 3 * i1)] (SC bo) im P) (k : ∀ x2 im2, P x2 im2 → V mX9_move (d + 1) b 42 [some (.ref 0), some (.int l1), some (.int l2), some (.int l3), some (.int l4), some (.int l5), some (.ref (38 + 3 * i1)), some (.ref (38 + 3 * i2))] [.int x2] (SC bo) im2 Q) : V mX9_move (d + 1) b 21 [some (.ref 0), some (.int l1), some (.int l2), some (.int l3), some (.int l4), some (.int l5), none, none] [] (SC bo) im Q := by
  refine V.aload_n dX9_move_21 rfl rfl ?_
  refine V.getR fX9_47 rfl (by rfl) (by rfl) dX9_move_22 ?_
  refine V.iload_n dX9_move_25 rfl rfl ?_
  refine V.aald (i := i1) ⟨by rfl, by rfl, by rfl⟩ g0 g1 (xsheets g1) dX9_move_26 ?_
  refine V.astore dX9_move_27 rfl rfl ?_
  refine V.aload_n dX9_move_29 rfl rfl ?_
  refine V.getR fX9_47 rfl (by rfl) (by rfl) dX9_move_30 ?_
  refine V.iload_n dX9_move_33 rfl rfl ?_
  refine V.aald (i := i2) ⟨by rfl, by rfl, by rfl⟩ g2 g3 (xsheets g3) dX9_move_34 ?_
  refine V.astore dX9_move_35 rfl rfl ?_
  refine V.aload dX9_move_37 rfl ?_
  refine V.cVI rfl vX7_isMissing lkX9_244 wX7_isMissing (ci := 7) rfl (xsheet g1) (As := []) rfl rfl rfl dX9_move_39 hs (fun x2 im2 h2 => ?_)
  exact k x2 im2 h2
theorem bX9_move_42 {d : Nat} {b : Nat × Nat} {bo : Bool} {im : XI} {Q : Option Value → XS → XI → Prop} {l1 : Int32} {l2 : Int32} {l3 : Int32} {l4 : Int32} {l5 : Int32} {l6 : Nat} {l7 : Nat} {s0 : Int32}  (kt : ¬ s0 = 0 → V mX9_move d b 53 [some (.ref 0), some (.int l1), some (.int l2), some (.int l3), some (.int l4), some (.int l5), some (.ref l6), some (.ref l7)] [] (SC bo) im Q) (kf : s0 = 0 → V mX9_move d b 45 [some (.ref 0), some (.int l1), some (.int l2), some (.int l3), some (.int l4), some (.int l5), some (.ref l6), some (.ref l7)] [] (SC bo) im Q) : V mX9_move d b 42 [some (.ref 0), some (.int l1), some (.int l2), some (.int l3), some (.int l4), some (.int l5), some (.ref l6), some (.ref l7)] [.int s0] (SC bo) im Q := by
  refine V.if_ne (tgt := 53) dX9_move_42 (by decide) (fun h => ?_) (fun h => ?_)
  · exact kt h
  · exact kf h
theorem bX9_move_45 {d : Nat} {b : Nat × Nat} {bo : Bool} {im : XI} {Q : Option Value → XS → XI → Prop} {l1 : Int32} {l2 : Int32} {l3 : Int32} {l4 : Int32} {l5 : Int32} {l6 : Nat} {l7 : Nat} {P : Int32 → XI → Prop} (g0 : (SC bo).1[l7]? = some (.inl 7)) (hs : SpI mX7_isMissing d [.ref l7] (SC bo) im P) (k : ∀ x2 im2, P x2 im2 → V mX9_move (d + 1) b 50 [some (.ref 0), some (.int l1), some (.int l2), some (.int l3), some (.int l4), some (.int l5), some (.ref l6), some (.ref l7)] [.int x2] (SC bo) im2 Q) : V mX9_move (d + 1) b 45 [some (.ref 0), some (.int l1), some (.int l2), some (.int l3), some (.int l4), some (.int l5), some (.ref l6), some (.ref l7)] [] (SC bo) im Q := by
  refine V.aload dX9_move_45 rfl ?_
  refine V.cVI rfl vX7_isMissing lkX9_244 wX7_isMissing (ci := 7) rfl g0 (As := []) rfl rfl rfl dX9_move_47 hs (fun x2 im2 h2 => ?_)
  exact k x2 im2 h2
theorem bX9_move_50 {d : Nat} {b : Nat × Nat} {bo : Bool} {im : XI} {Q : Option Value → XS → XI → Prop} {l1 : Int32} {l2 : Int32} {l3 : Int32} {l4 : Int32} {l5 : Int32} {l6 : Nat} {l7 : Nat} {s0 : Int32}  (kt : s0 = 0 → V mX9_move d b 60 [some (.ref 0), some (.int l1), some (.int l2), some (.int l3), some (.int l4), some (.int l5), some (.ref l6), some (.ref l7)] [] (SC bo) im Q) (kf : ¬ s0 = 0 → V mX9_move d b 53 [some (.ref 0), some (.int l1), some (.int l2), some (.int l3), some (.int l4), some (.int l5), some (.ref l6), some (.ref l7)] [] (SC bo) im Q) : V mX9_move d b 50 [some (.ref 0), some (.int l1), some (.int l2), some (.int l3), some (.int l4), some (.int l5), some (.ref l6), some (.ref l7)] [.int s0] (SC bo) im Q := by
  refine V.if_eq (tgt := 60) dX9_move_50 (by decide) (fun h => ?_) (fun h => ?_)
  · exact kt h
  · exact kf h
theorem bX9_move_53 {d : Nat} {b : Nat × Nat} {bo : Bool} {im : XI} {Q : Option Value → XS → XI → Prop} {l1 : Int32} {l2 : Int32} {l3 : Int32} {l4 : Int32} {l5 : Int32} {l6 : Nat} {l7 : Nat} {P : Int32 → XI → Prop}  (hs : SpI mX9_fail d [.ref 0, .int (-1000000002 : Int32)] (SC bo) im P) (k : ∀ x2 im2, P x2 im2 → V mX9_move (d + 1) b 59 [some (.ref 0), some (.int l1), some (.int l2), some (.int l3), some (.int l4), some (.int l5), some (.ref l6), some (.ref l7)] [.int x2] (SC bo) im2 Q) : V mX9_move (d + 1) b 53 [some (.ref 0), some (.int l1), some (.int l2), some (.int l3), some (.int l4), some (.int l5), some (.ref l6), some (.ref l7)] [] (SC bo) im Q := by
  refine V.aload_n dX9_move_53 rfl rfl ?_
  refine V.ldc kX9_212 dX9_move_54 ?_
  refine V.cVI rfl vX9_fail lkX9_65 wX9_fail (ci := 9) rfl (by rfl) (As := [.int (-1000000002 : Int32)]) rfl rfl rfl dX9_move_56 hs (fun x2 im2 h2 => ?_)
  exact k x2 im2 h2
theorem bX9_move_59 {d : Nat} {b : Nat × Nat} {bo : Bool} {im : XI} {Q : Option Value → XS → XI → Prop} {l1 : Int32} {l2 : Int32} {l3 : Int32} {l4 : Int32} {l5 : Int32} {l6 : Nat} {l7 : Nat} {s0 : Int32}  (hq : Q (some (.int s0)) (SC bo) im) : V mX9_move d b 59 [some (.ref 0), some (.int l1), some (.int l2), some (.int l3), some (.int l4), some (.int l5), some (.ref l6), some (.ref l7)] [.int s0] (SC bo) im Q := by
  exact V.iret rfl dX9_move_59 hq
theorem bX9_move_60 {d : Nat} {b : Nat × Nat} {bo : Bool} {im : XI} {Q : Option Value → XS → XI → Prop} {l1 : Int32} {l2 : Int32} {l3 : Int32} {l4 : Int32} {l5 : Int32} {l6 : Nat} {l7 : Nat} (g0 : (SC bo).1[l6]? = some (.inl 7)) (g1 : (SC bo).1[l7]? = some (.inl 7)) (kt : (im l6 1) = (im l7 1) → V mX9_move d b 80 [some (.ref 0), some (.int l1), some (.int l2), some (.int l3), some (.int l4), some (.int l5), some (.ref l6), some (.ref l7)] [] (SC bo) im Q) (kf : ¬ (im l6 1) = (im l7 1) → V mX9_move d b 73 [some (.ref 0), some (.int l1), some (.int l2), some (.int l3), some (.int l4), some (.int l5), some (.ref l6), some (.ref l7)] [] (SC bo) im Q) : V mX9_move d b 60 [some (.ref 0), some (.int l1), some (.int l2), some (.int l3), some (.int l4), some (.int l5), some (.ref l6), some (.ref l7)] [] (SC bo) im Q := by
  refine V.aload dX9_move_60 rfl ?_
  refine V.getI fX9_285 rfl g0 dX9_move_62 ?_
  refine V.aload dX9_move_65 rfl ?_
  refine V.getI fX9_285 rfl g1 dX9_move_67 ?_
  refine V.icmp_eq (tgt := 80) dX9_move_70 (by decide) (fun h => ?_) (fun h => ?_)
  · exact kt h
  · exact kf h
theorem bX9_move_73 {d : Nat} {b : Nat × Nat} {bo : Bool} {im : XI} {Q : Option Value → XS → XI → Prop} {l1 : Int32} {l2 : Int32} {l3 : Int32} {l4 : Int32} {l5 : Int32} {l6 : Nat} {l7 : Nat} {P : Int32 → XI → Prop}  (hs : SpI mX9_fail d [.ref 0, .int (-1000000005 : Int32)] (SC bo) im P) (k : ∀ x2 im2, P x2 im2 → V mX9_move (d + 1) b 79 [some (.ref 0), some (.int l1), some (.int l2), some (.int l3), some (.int l4), some (.int l5), some (.ref l6), some (.ref l7)] [.int x2] (SC bo) im2 Q) : V mX9_move (d + 1) b 73 [some (.ref 0), some (.int l1), some (.int l2), some (.int l3), some (.int l4), some (.int l5), some (.ref l6), some (.ref l7)] [] (SC bo) im Q := by
  refine V.aload_n dX9_move_73 rfl rfl ?_
  refine V.ldc kX9_112 dX9_move_74 ?_
  refine V.cVI rfl vX9_fail lkX9_65 wX9_fail (ci := 9) rfl (by rfl) (As := [.int (-1000000005 : Int32)]) rfl rfl rfl dX9_move_76 hs (fun x2 im2 h2 => ?_)
  exact k x2 im2 h2
theorem bX9_move_79 {d : Nat} {b : Nat × Nat} {bo : Bool} {im : XI} {Q : Option Value → XS → XI → Prop} {l1 : Int32} {l2 : Int32} {l3 : Int32} {l4 : Int32} {l5 : Int32} {l6 : Nat} {l7 : Nat} {s0 : Int32}  (hq : Q (some (.int s0)) (SC bo) im) : V mX9_move d b 79 [some (.ref 0), some (.int l1), some (.int l2), some (.int l3), some (.int l4), some (.int l5), some (.ref l6), some (.ref l7)] [.int s0] (SC bo) im Q := by
  exact V.iret rfl dX9_move_79 hq
theorem bX9_move_80 {d : Nat} {b : Nat × Nat} {bo : Bool} {im : XI} {Q : Option Value → XS → XI → Prop} {l1 : Int32} {l2 : Int32} {l3 : Int32} {l4 : Int32} {l5 : Int32} {l6 : Nat} {l7 : Nat} {r1 : Nat} {P : Int32 → XI → Prop} (g0 : (SC bo).1[l6]? = some (.inl 7)) (g1 : (SC bo).2 l6 0 = some r1) (g2 : (SC bo).1[r1]? = some (.inl 6)) (hs : SpI mX6_spans d [.ref r1, .int l2, .int l5] (SC bo) im P) (k : ∀ x2 im2, P x2 im2 → V mX9_move (d + 1) b 91 [some (.ref 0), some (.int l1), some (.int l2), some (.int l3), some (.int l4), some (.int l5), some (.ref l6), some (.ref l7)] [.int x2] (SC bo) im2 Q) : V mX9_move (d + 1) b 80 [some (.ref 0), some (.int l1), some (.int l2), some (.int l3), some (.int l4), some (.int l5), some (.ref l6), some (.ref l7)] [] (SC bo) im Q := by
  refine V.aload dX9_move_80 rfl ?_
  refine V.getR fX9_248 rfl g0 g1 dX9_move_82 ?_
  refine V.iload_n dX9_move_85 rfl rfl ?_
  refine V.iload dX9_move_86 rfl ?_
  refine V.cVI rfl vX6_spans lkX9_288 wX6_spans (ci := 6) rfl g2 (As := [.int l2, .int l5]) rfl rfl rfl dX9_move_88 hs (fun x2 im2 h2 => ?_)
  exact k x2 im2 h2
theorem bX9_move_91 {d : Nat} {b : Nat × Nat} {bo : Bool} {im : XI} {Q : Option Value → XS → XI → Prop} {l1 : Int32} {l2 : Int32} {l3 : Int32} {l4 : Int32} {l5 : Int32} {l6 : Nat} {l7 : Nat} {s0 : Int32}  (kt : s0 = 0 → V mX9_move d b 109 [some (.ref 0), some (.int l1), some (.int l2), some (.int l3), some (.int l4), some (.int l5), some (.ref l6), some (.ref l7)] [] (SC bo) im Q) (kf : ¬ s0 = 0 → V mX9_move d b 94 [some (.ref 0), some (.int l1), some (.int l2), some (.int l3), some (.int l4), some (.int l5), some (.ref l6), some (.ref l7)] [] (SC bo) im Q) : V mX9_move d b 91 [some (.ref 0), some (.int l1), some (.int l2), some (.int l3), some (.int l4), some (.int l5), some (.ref l6), some (.ref l7)] [.int s0] (SC bo) im Q := by
  refine V.if_eq (tgt := 109) dX9_move_91 (by decide) (fun h => ?_) (fun h => ?_)
  · exact kt h
  · exact kf h
theorem bX9_move_94 {d : Nat} {b : Nat × Nat} {bo : Bool} {im : XI} {Q : Option Value → XS → XI → Prop} {l1 : Int32} {l2 : Int32} {l3 : Int32} {l4 : Int32} {l5 : Int32} {l6 : Nat} {l7 : Nat} {r1 : Nat} {P : Int32 → XI → Prop} (g0 : (SC bo).1[l7]? = some (.inl 7)) (g1 : (SC bo).2 l7 0 = some r1) (g2 : (SC bo).1[r1]? = some (.inl 6)) (hs : SpI mX6_spans d [.ref r1, .int l4, .int l5] (SC bo) im P) (k : ∀ x2 im2, P x2 im2 → V mX9_move (d + 1) b 106 [some (.ref 0), some (.int l1), some (.int l2), some (.int l3), some (.int l4), some (.int l5), some (.ref l6), some (.ref l7)] [.int x2] (SC bo) im2 Q) : V mX9_move (d + 1) b 94 [some (.ref 0), some (.int l1), some (.int l2), some (.int l3), some (.int l4), some (.int l5), some (.ref l6), some (.ref l7)] [] (SC bo) im Q := by
  refine V.aload dX9_move_94 rfl ?_
  refine V.getR fX9_248 rfl g0 g1 dX9_move_96 ?_
  refine V.iload dX9_move_99 rfl ?_
  refine V.iload dX9_move_101 rfl ?_
  refine V.cVI rfl vX6_spans lkX9_288 wX6_spans (ci := 6) rfl g2 (As := [.int l4, .int l5]) rfl rfl rfl dX9_move_103 hs (fun x2 im2 h2 => ?_)
  exact k x2 im2 h2
theorem bX9_move_106 {d : Nat} {b : Nat × Nat} {bo : Bool} {im : XI} {Q : Option Value → XS → XI → Prop} {l1 : Int32} {l2 : Int32} {l3 : Int32} {l4 : Int32} {l5 : Int32} {l6 : Nat} {l7 : Nat} {s0 : Int32}  (kt : ¬ s0 = 0 → V mX9_move d b 116 [some (.ref 0), some (.int l1), some (.int l2), some (.int l3), some (.int l4), some (.int l5), some (.ref l6), some (.ref l7)] [] (SC bo) im Q) (kf : s0 = 0 → V mX9_move d b 109 [some (.ref 0), some (.int l1), some (.int l2), some (.int l3), some (.int l4), some (.int l5), some (.ref l6), some (.ref l7)] [] (SC bo) im Q) : V mX9_move d b 106 [some (.ref 0), some (.int l1), some (.int l2), some (.int l3), some (.int l4), some (.int l5), some (.ref l6), some (.ref l7)] [.int s0] (SC bo) im Q := by
  refine V.if_ne (tgt := 116) dX9_move_106 (by decide) (fun h => ?_) (fun h => ?_)
  · exact kt h
  · exact kf h
theorem bX9_move_109 {d : Nat} {b : Nat × Nat} {bo : Bool} {im : XI} {Q : Option Value → XS → XI → Prop} {l1 : Int32} {l2 : Int32} {l3 : Int32} {l4 : Int32} {l5 : Int32} {l6 : Nat} {l7 : Nat} {P : Int32 → XI → Prop}  (hs : SpI mX9_fail d [.ref 0, .int (-1000000001 : Int32)] (SC bo) im P) (k : ∀ x2 im2, P x2 im2 → V mX9_move (d + 1) b 115 [some (.ref 0), some (.int l1), some (.int l2), some (.int l3), some (.int l4), some (.int l5), some (.ref l6), some (.ref l7)] [.int x2] (SC bo) im2 Q) : V mX9_move (d + 1) b 109 [some (.ref 0), some (.int l1), some (.int l2), some (.int l3), some (.int l4), some (.int l5), some (.ref l6), some (.ref l7)] [] (SC bo) im Q := by
  refine V.aload_n dX9_move_109 rfl rfl ?_
  refine V.ldc kX9_64 dX9_move_110 ?_
  refine V.cVI rfl vX9_fail lkX9_65 wX9_fail (ci := 9) rfl (by rfl) (As := [.int (-1000000001 : Int32)]) rfl rfl rfl dX9_move_112 hs (fun x2 im2 h2 => ?_)
  exact k x2 im2 h2
theorem bX9_move_115 {d : Nat} {b : Nat × Nat} {bo : Bool} {im : XI} {Q : Option Value → XS → XI → Prop} {l1 : Int32} {l2 : Int32} {l3 : Int32} {l4 : Int32} {l5 : Int32} {l6 : Nat} {l7 : Nat} {s0 : Int32}  (hq : Q (some (.int s0)) (SC bo) im) : V mX9_move d b 115 [some (.ref 0), some (.int l1), some (.int l2), some (.int l3), some (.int l4), some (.int l5), some (.ref l6), some (.ref l7)] [.int s0] (SC bo) im Q := by
  exact V.iret rfl dX9_move_115 hq
theorem bX9_move_116 {d : Nat} {b : Nat × Nat} {bo : Bool} {im : XI} {Q : Option Value → XS → XI → Prop} {l1 : Int32} {l2 : Int32} {l3 : Int32} {l4 : Int32} {l5 : Int32} {l6 : Nat} {l7 : Nat} {r1 : Nat} {r2 : Nat} {P : XI → Prop} (g0 : (SC bo).1[l7]? = some (.inl 7)) (g1 : (SC bo).2 l7 0 = some r1) (g2 : (SC bo).1[l6]? = some (.inl 7)) (g3 : (SC bo).2 l6 0 = some r2) (g4 : (SC bo).1[r1]? = some (.inl 6)) (hs : SpV mX6_takeFrom d [.ref r1, .ref r2, .int l2, .int l4, .int l5] (SC bo) im P) (k : ∀ im2, P im2 → V mX9_move (d + 1) b 134 [some (.ref 0), some (.int l1), some (.int l2), some (.int l3), some (.int l4), some (.int l5), some (.ref l6), some (.ref l7)] [] (SC bo) im2 Q) : V mX9_move (d + 1) b 116 [some (.ref 0), some (.int l1), some (.int l2), some (.int l3), some (.int l4), some (.int l5), some (.ref l6), some (.ref l7)] [] (SC bo) im Q := by
  refine V.aload dX9_move_116 rfl ?_
  refine V.getR fX9_248 rfl g0 g1 dX9_move_118 ?_
  refine V.aload dX9_move_121 rfl ?_
  refine V.getR fX9_248 rfl g2 g3 dX9_move_123 ?_
  refine V.iload_n dX9_move_126 rfl rfl ?_
  refine V.iload dX9_move_127 rfl ?_
  refine V.iload dX9_move_129 rfl ?_
  refine V.cVV rfl vX6_takeFrom lkX9_291 wX6_takeFrom (ci := 6) rfl g4 (As := [.ref r2, .int l2, .int l4, .int l5]) rfl rfl rfl dX9_move_131 hs (fun im2 h2 => ?_)
  exact k im2 h2
theorem bX9_move_134 {d : Nat} {b : Nat × Nat} {bo : Bool} {im : XI} {Q : Option Value → XS → XI → Prop} {l1 : Int32} {l2 : Int32} {l3 : Int32} {l4 : Int32} {l5 : Int32} {l6 : Nat} {l7 : Nat}  (hq : Q (some (.int l5)) (SC bo) im) : V mX9_move d b 134 [some (.ref 0), some (.int l1), some (.int l2), some (.int l3), some (.int l4), some (.int l5), some (.ref l6), some (.ref l7)] [] (SC bo) im Q := by
  refine V.iload dX9_move_134 rfl ?_
  exact V.iret rfl dX9_move_136 hq
theorem bX9_partsAll_0 {d : Nat} {b : Nat × Nat} {bo : Bool} {im : XI} {Q : Option Value → XS → XI → Prop} {l1 : Int32} {P : Int32 → XI → Prop}  (hs : SpI mX9_isSheet d [.int l1] (SC bo) im P) (k : ∀ x2 im2, P x2 im2 → V mX9_partsAll (d + 1) b 4 [some (.ref 0), some (.int l1), none, none] [.int x2] (SC bo) im2 Q) : V mX9_partsAll (d + 1) b 0 [some (.ref 0), some (.int l1), none, none] [] (SC bo) im Q := by
  refine V.iload_n dX9_partsAll_0 rfl rfl ?_
  refine V.cSI rfl vX9_isSheet lkX9_241 sX9_isSheet (As := [.int l1]) rfl rfl rfl dX9_partsAll_1 hs (fun x2 im2 h2 => ?_)
  exact k x2 im2 h2
theorem bX9_partsAll_4 {d : Nat} {b : Nat × Nat} {bo : Bool} {im : XI} {Q : Option Value → XS → XI → Prop} {l1 : Int32} {s0 : Int32}  (kt : ¬ s0 = 0 → V mX9_partsAll d b 14 [some (.ref 0), some (.int l1), none, none] [] (SC bo) im Q) (kf : s0 = 0 → V mX9_partsAll d b 7 [some (.ref 0), some (.int l1), none, none] [] (SC bo) im Q) : V mX9_partsAll d b 4 [some (.ref 0), some (.int l1), none, none] [.int s0] (SC bo) im Q := by
  refine V.if_ne (tgt := 14) dX9_partsAll_4 (by decide) (fun h => ?_) (fun h => ?_)
  · exact kt h
  · exact kf h
theorem bX9_partsAll_7 {d : Nat} {b : Nat × Nat} {bo : Bool} {im : XI} {Q : Option Value → XS → XI → Prop} {l1 : Int32} {P : Int32 → XI → Prop}  (hs : SpI mX9_fail d [.ref 0, .int (-1000000001 : Int32)] (SC bo) im P) (k : ∀ x2 im2, P x2 im2 → V mX9_partsAll (d + 1) b 13 [some (.ref 0), some (.int l1), none, none] [.int x2] (SC bo) im2 Q) : V mX9_partsAll (d + 1) b 7 [some (.ref 0), some (.int l1), none, none] [] (SC bo) im Q := by
  refine V.aload_n dX9_partsAll_7 rfl rfl ?_
  refine V.ldc kX9_64 dX9_partsAll_8 ?_
  refine V.cVI rfl vX9_fail lkX9_65 wX9_fail (ci := 9) rfl (by rfl) (As := [.int (-1000000001 : Int32)]) rfl rfl rfl dX9_partsAll_10 hs (fun x2 im2 h2 => ?_)
  exact k x2 im2 h2
theorem bX9_partsAll_13 {d : Nat} {b : Nat × Nat} {bo : Bool} {im : XI} {Q : Option Value → XS → XI → Prop} {l1 : Int32} {s0 : Int32}  (hq : Q (some (.int s0)) (SC bo) im) : V mX9_partsAll d b 13 [some (.ref 0), some (.int l1), none, none] [.int s0] (SC bo) im Q := by
  exact V.iret rfl dX9_partsAll_13 hq
theorem bX9_partsAll_14 {d : Nat} {b : Nat × Nat} {bo : Bool} {im : XI} {Q : Option Value → XS → XI → Prop} {l1 : Int32} {i1 : Nat} {P : Int32 → XI → Prop} (g0 : l1 = nI i1) (g1 : i1 < 4) (hs : SpI mX7_isMissing d [.ref (38 + 3 * i1)] (SC bo) im P) (k : ∀ x2 im2, P x2 im2 → V mX9_partsAll (d + 1) b 23 [some (.ref 0), some (.int l1), none, none] [.int x2] (SC bo) im2 Q) : V mX9_partsAll (d + 1) b 14 [some (.ref 0), some (.int l1), none, none] [] (SC bo) im Q := by
  refine V.aload_n dX9_partsAll_14 rfl rfl ?_
  refine V.getR fX9_47 rfl (by rfl) (by rfl) dX9_partsAll_15 ?_
  refine V.iload_n dX9_partsAll_18 rfl rfl ?_
  refine V.aald (i := i1) ⟨by rfl, by rfl, by rfl⟩ g0 g1 (xsheets g1) dX9_partsAll_19 ?_
  refine V.cVI rfl vX7_isMissing lkX9_244 wX7_isMissing (ci := 7) rfl (xsheet g1) (As := []) rfl rfl rfl dX9_partsAll_20 hs (fun x2 im2 h2 => ?_)
  exact k x2 im2 h2
theorem bX9_partsAll_23 {d : Nat} {b : Nat × Nat} {bo : Bool} {im : XI} {Q : Option Value → XS → XI → Prop} {l1 : Int32} {s0 : Int32}  (kt : s0 = 0 → V mX9_partsAll d b 33 [some (.ref 0), some (.int l1), none, none] [] (SC bo) im Q) (kf : ¬ s0 = 0 → V mX9_partsAll d b 26 [some (.ref 0), some (.int l1), none, none] [] (SC bo) im Q) : V mX9_partsAll d b 23 [some (.ref 0), some (.int l1), none, none] [.int s0] (SC bo) im Q := by
  refine V.if_eq (tgt := 33) dX9_partsAll_23 (by decide) (fun h => ?_) (fun h => ?_)
  · exact kt h
  · exact kf h
theorem bX9_partsAll_26 {d : Nat} {b : Nat × Nat} {bo : Bool} {im : XI} {Q : Option Value → XS → XI → Prop} {l1 : Int32} {P : Int32 → XI → Prop}  (hs : SpI mX9_fail d [.ref 0, .int (-1000000002 : Int32)] (SC bo) im P) (k : ∀ x2 im2, P x2 im2 → V mX9_partsAll (d + 1) b 32 [some (.ref 0), some (.int l1), none, none] [.int x2] (SC bo) im2 Q) : V mX9_partsAll (d + 1) b 26 [some (.ref 0), some (.int l1), none, none] [] (SC bo) im Q := by
  refine V.aload_n dX9_partsAll_26 rfl rfl ?_
  refine V.ldc kX9_212 dX9_partsAll_27 ?_
  refine V.cVI rfl vX9_fail lkX9_65 wX9_fail (ci := 9) rfl (by rfl) (As := [.int (-1000000002 : Int32)]) rfl rfl rfl dX9_partsAll_29 hs (fun x2 im2 h2 => ?_)
  exact k x2 im2 h2
theorem bX9_partsAll_32 {d : Nat} {b : Nat × Nat} {bo : Bool} {im : XI} {Q : Option Value → XS → XI → Prop} {l1 : Int32} {s0 : Int32}  (hq : Q (some (.int s0)) (SC bo) im) : V mX9_partsAll d b 32 [some (.ref 0), some (.int l1), none, none] [.int s0] (SC bo) im Q := by
  exact V.iret rfl dX9_partsAll_32 hq
theorem bX9_partsAll_33 {d : Nat} {b : Nat × Nat} {bo : Bool} {im : XI} {Q : Option Value → XS → XI → Prop} {l1 : Int32} {i1 : Nat} (g0 : l1 = nI i1) (g1 : i1 < 4) (k : V mX9_partsAll d b 45 [some (.ref 0), some (.int l1), some (.ref (39 + 3 * i1)), some (.int (0 : Int32))] [] (SC bo) im Q) : V mX9_partsAll d b 33 [some (.ref 0), some (.int l1), none, none] [] (SC bo) im Q := by
  refine V.aload_n dX9_partsAll_33 rfl rfl ?_
  refine V.getR fX9_47 rfl (by rfl) (by rfl) dX9_partsAll_34 ?_
  refine V.iload_n dX9_partsAll_37 rfl rfl ?_
  refine V.aald (i := i1) ⟨by rfl, by rfl, by rfl⟩ g0 g1 (xsheets g1) dX9_partsAll_38 ?_
  refine V.getR fX9_248 rfl (xsheet g1) (xsheetR g1) dX9_partsAll_39 ?_
  refine V.astore_n dX9_partsAll_42 rfl rfl rfl ?_
  refine V.iconst (v := 0) dX9_partsAll_43 (by decide) ?_
  refine V.istore_n dX9_partsAll_44 rfl rfl rfl ?_
  exact k
theorem bX9_partsAll_45 {d : Nat} {b : Nat × Nat} {bo : Bool} {im : XI} {Q : Option Value → XS → XI → Prop} {l1 : Int32} {l2 : Nat} {l3 : Int32} {P : Int32 → XI → Prop} (g0 : (SC bo).1[l2]? = some (.inl 6)) (hs : SpI mX6_size d [.ref l2] (SC bo) im P) (k : ∀ x2 im2, P x2 im2 → V mX9_partsAll (d + 1) b 50 [some (.ref 0), some (.int l1), some (.ref l2), some (.int l3)] [.int x2, .int l3] (SC bo) im2 Q) : V mX9_partsAll (d + 1) b 45 [some (.ref 0), some (.int l1), some (.ref l2), some (.int l3)] [] (SC bo) im Q := by
  refine V.iload_n dX9_partsAll_45 rfl rfl ?_
  refine V.aload_n dX9_partsAll_46 rfl rfl ?_
  refine V.cVI rfl vX6_size lkX9_150 wX6_size (ci := 6) rfl g0 (As := []) rfl rfl rfl dX9_partsAll_47 hs (fun x2 im2 h2 => ?_)
  exact k x2 im2 h2
theorem bX9_partsAll_50 {d : Nat} {b : Nat × Nat} {bo : Bool} {im : XI} {Q : Option Value → XS → XI → Prop} {l1 : Int32} {l2 : Nat} {l3 : Int32} {s0 : Int32} {s1 : Int32}  (kt : s1 ≤ s0 → V mX9_partsAll d b 98 [some (.ref 0), some (.int l1), some (.ref l2), some (.int l3)] [] (SC bo) im Q) (kf : ¬ s1 ≤ s0 → V mX9_partsAll d b 53 [some (.ref 0), some (.int l1), some (.ref l2), some (.int l3)] [] (SC bo) im Q) : V mX9_partsAll d b 50 [some (.ref 0), some (.int l1), some (.ref l2), some (.int l3)] [.int s1, .int s0] (SC bo) im Q := by
  refine V.icmp_ge (tgt := 98) dX9_partsAll_50 (by decide) (fun h => ?_) (fun h => ?_)
  · exact kt h
  · exact kf h
theorem bX9_partsAll_53 {d : Nat} {b : Nat × Nat} {bo : Bool} {im : XI} {Q : Option Value → XS → XI → Prop} {l1 : Int32} {l2 : Nat} {l3 : Int32} {P : Int32 → XI → Prop}  (hs : SpI mX2_hasDoing d [.ref 1, .int l3] (SC bo) im P) (k : ∀ x2 im2, P x2 im2 → V mX9_partsAll (d + 1) b 61 [some (.ref 0), some (.int l1), some (.ref l2), some (.int l3)] [.int x2] (SC bo) im2 Q) : V mX9_partsAll (d + 1) b 53 [some (.ref 0), some (.int l1), some (.ref l2), some (.int l3)] [] (SC bo) im Q := by
  refine V.aload_n dX9_partsAll_53 rfl rfl ?_
  refine V.getR fX9_12 rfl (by rfl) (by rfl) dX9_partsAll_54 ?_
  refine V.iload_n dX9_partsAll_57 rfl rfl ?_
  refine V.cVI rfl vX2_hasDoing lkX9_140 wX2_hasDoing (ci := 2) rfl (by rfl) (As := [.int l3]) rfl rfl rfl dX9_partsAll_58 hs (fun x2 im2 h2 => ?_)
  exact k x2 im2 h2
theorem bX9_partsAll_61 {d : Nat} {b : Nat × Nat} {bo : Bool} {im : XI} {Q : Option Value → XS → XI → Prop} {l1 : Int32} {l2 : Nat} {l3 : Int32} {s0 : Int32}  (kt : s0 = 0 → V mX9_partsAll d b 98 [some (.ref 0), some (.int l1), some (.ref l2), some (.int l3)] [] (SC bo) im Q) (kf : ¬ s0 = 0 → V mX9_partsAll d b 64 [some (.ref 0), some (.int l1), some (.ref l2), some (.int l3)] [] (SC bo) im Q) : V mX9_partsAll d b 61 [some (.ref 0), some (.int l1), some (.ref l2), some (.int l3)] [.int s0] (SC bo) im Q := by
  refine V.if_eq (tgt := 98) dX9_partsAll_61 (by decide) (fun h => ?_) (fun h => ?_)
  · exact kt h
  · exact kf h
theorem bX9_partsAll_64 {d : Nat} {b : Nat × Nat} {bo : Bool} {im : XI} {Q : Option Value → XS → XI → Prop} {l1 : Int32} {l2 : Nat} {l3 : Int32} {P : Int32 → XI → Prop} (g0 : (SC bo).1[l2]? = some (.inl 6)) (hs : SpI mX6_at d [.ref l2, .int l3] (SC bo) im P) (k : ∀ x2 im2, P x2 im2 → V mX9_partsAll (d + 1) b 69 [some (.ref 0), some (.int l1), some (.ref l2), some (.int l3)] [.int x2] (SC bo) im2 Q) : V mX9_partsAll (d + 1) b 64 [some (.ref 0), some (.int l1), some (.ref l2), some (.int l3)] [] (SC bo) im Q := by
  refine V.aload_n dX9_partsAll_64 rfl rfl ?_
  refine V.iload_n dX9_partsAll_65 rfl rfl ?_
  refine V.cVI rfl vX6_at lkX9_272 wX6_at (ci := 6) rfl g0 (As := [.int l3]) rfl rfl rfl dX9_partsAll_66 hs (fun x2 im2 h2 => ?_)
  exact k x2 im2 h2
theorem bX9_partsAll_69 {d : Nat} {b : Nat × Nat} {bo : Bool} {im : XI} {Q : Option Value → XS → XI → Prop} {l1 : Int32} {l2 : Nat} {l3 : Int32} {s0 : Int32} {P : Int32 → XI → Prop}  (hs : SpI mX9_isParts d [.int s0] (SC bo) im P) (k : ∀ x2 im2, P x2 im2 → V mX9_partsAll (d + 1) b 72 [some (.ref 0), some (.int l1), some (.ref l2), some (.int l3)] [.int x2] (SC bo) im2 Q) : V mX9_partsAll (d + 1) b 69 [some (.ref 0), some (.int l1), some (.ref l2), some (.int l3)] [.int s0] (SC bo) im Q := by
  refine V.cSI rfl vX9_isParts lkX9_113 sX9_isParts (As := [.int s0]) rfl rfl rfl dX9_partsAll_69 hs (fun x2 im2 h2 => ?_)
  exact k x2 im2 h2
theorem bX9_partsAll_72 {d : Nat} {b : Nat × Nat} {bo : Bool} {im : XI} {Q : Option Value → XS → XI → Prop} {l1 : Int32} {l2 : Nat} {l3 : Int32} {s0 : Int32}  (kt : s0 = 0 → V mX9_partsAll d b 98 [some (.ref 0), some (.int l1), some (.ref l2), some (.int l3)] [] (SC bo) im Q) (kf : ¬ s0 = 0 → V mX9_partsAll d b 75 [some (.ref 0), some (.int l1), some (.ref l2), some (.int l3)] [] (SC bo) im Q) : V mX9_partsAll d b 72 [some (.ref 0), some (.int l1), some (.ref l2), some (.int l3)] [.int s0] (SC bo) im Q := by
  refine V.if_eq (tgt := 98) dX9_partsAll_72 (by decide) (fun h => ?_) (fun h => ?_)
  · exact kt h
  · exact kf h
theorem bX9_partsAll_75 {d : Nat} {b : Nat × Nat} {bo : Bool} {im : XI} {Q : Option Value → XS → XI → Prop} {l1 : Int32} {l2 : Nat} {l3 : Int32} {i1 : Nat} {P : Int32 → XI → Prop} (g0 : l3 = nI i1) (g1 : i1 < 6) (g2 : (SC bo).1[l2]? = some (.inl 6)) (hs : SpI mX6_at d [.ref l2, .int l3] (SC bo) im P) (k : ∀ x2 im2, P x2 im2 → V mX9_partsAll (d + 1) b 89 [some (.ref 0), some (.int l1), some (.ref l2), some (.int l3)] [.int x2, .ref (22 + i1)] (SC bo) im2 Q) : V mX9_partsAll (d + 1) b 75 [some (.ref 0), some (.int l1), some (.ref l2), some (.int l3)] [] (SC bo) im Q := by
  refine V.aload_n dX9_partsAll_75 rfl rfl ?_
  refine V.getR fX9_12 rfl (by rfl) (by rfl) dX9_partsAll_76 ?_
  refine V.getR fX9_125 rfl (by rfl) (by rfl) dX9_partsAll_79 ?_
  refine V.iload_n dX9_partsAll_82 rfl rfl ?_
  refine V.aald (i := i1) ⟨by rfl, by rfl, by rfl⟩ g0 g1 (xdoings g1) dX9_partsAll_83 ?_
  refine V.aload_n dX9_partsAll_84 rfl rfl ?_
  refine V.iload_n dX9_partsAll_85 rfl rfl ?_
  refine V.cVI rfl vX6_at lkX9_272 wX6_at (ci := 6) rfl g2 (As := [.int l3]) rfl rfl rfl dX9_partsAll_86 hs (fun x2 im2 h2 => ?_)
  exact k x2 im2 h2
theorem bX9_partsAll_89 {d : Nat} {b : Nat × Nat} {bo : Bool} {im : XI} {Q : Option Value → XS → XI → Prop} {l1 : Int32} {l2 : Nat} {l3 : Int32} {s0 : Nat} {s1 : Int32} (g0 : (SC bo).1[s0]? = some (.inl 0)) (k : V mX9_partsAll d b 45 [some (.ref 0), some (.int l1), some (.ref l2), some (.int (l3 + (1 : Int32)))] [] (SC bo) (xup im s0 1 s1) Q) : V mX9_partsAll d b 89 [some (.ref 0), some (.int l1), some (.ref l2), some (.int l3)] [.int s1, .ref s0] (SC bo) im Q := by
  refine V.putI fX9_134 (fun h => by cases h) rfl g0 dX9_partsAll_89 ?_
  refine V.iinc (v := (l3 + (1 : Int32))) dX9_partsAll_92 rfl rfl rfl ?_
  refine V.goto (tgt := 45) dX9_partsAll_95 (by decide) ?_
  exact k
theorem bX9_partsAll_98 {d : Nat} {b : Nat × Nat} {bo : Bool} {im : XI} {Q : Option Value → XS → XI → Prop} {l1 : Int32} {l2 : Nat} {l3 : Int32}  (hq : Q (some (.int l3)) (SC bo) im) : V mX9_partsAll d b 98 [some (.ref 0), some (.int l1), some (.ref l2), some (.int l3)] [] (SC bo) im Q := by
  refine V.iload_n dX9_partsAll_98 rfl rfl ?_
  exact V.iret rfl dX9_partsAll_99 hq
theorem bX9_judge_0 {d : Nat} {b : Nat × Nat} {bo : Bool} {im : XI} {Q : Option Value → XS → XI → Prop} {l1 : Int32} {P : Int32 → XI → Prop}  (hs : SpI mX9_isSheet d [.int l1] (SC bo) im P) (k : ∀ x2 im2, P x2 im2 → V mX9_judge (d + 1) b 4 [some (.ref 0), some (.int l1), none, none] [.int x2] (SC bo) im2 Q) : V mX9_judge (d + 1) b 0 [some (.ref 0), some (.int l1), none, none] [] (SC bo) im Q := by
  refine V.iload_n dX9_judge_0 rfl rfl ?_
  refine V.cSI rfl vX9_isSheet lkX9_241 sX9_isSheet (As := [.int l1]) rfl rfl rfl dX9_judge_1 hs (fun x2 im2 h2 => ?_)
  exact k x2 im2 h2
theorem bX9_judge_4 {d : Nat} {b : Nat × Nat} {bo : Bool} {im : XI} {Q : Option Value → XS → XI → Prop} {l1 : Int32} {s0 : Int32}  (kt : ¬ s0 = 0 → V mX9_judge d b 14 [some (.ref 0), some (.int l1), none, none] [] (SC bo) im Q) (kf : s0 = 0 → V mX9_judge d b 7 [some (.ref 0), some (.int l1), none, none] [] (SC bo) im Q) : V mX9_judge d b 4 [some (.ref 0), some (.int l1), none, none] [.int s0] (SC bo) im Q := by
  refine V.if_ne (tgt := 14) dX9_judge_4 (by decide) (fun h => ?_) (fun h => ?_)
  · exact kt h
  · exact kf h
theorem bX9_judge_7 {d : Nat} {b : Nat × Nat} {bo : Bool} {im : XI} {Q : Option Value → XS → XI → Prop} {l1 : Int32} {P : Int32 → XI → Prop}  (hs : SpI mX9_fail d [.ref 0, .int (-1000000001 : Int32)] (SC bo) im P) (k : ∀ x2 im2, P x2 im2 → V mX9_judge (d + 1) b 13 [some (.ref 0), some (.int l1), none, none] [.int x2] (SC bo) im2 Q) : V mX9_judge (d + 1) b 7 [some (.ref 0), some (.int l1), none, none] [] (SC bo) im Q := by
  refine V.aload_n dX9_judge_7 rfl rfl ?_
  refine V.ldc kX9_64 dX9_judge_8 ?_
  refine V.cVI rfl vX9_fail lkX9_65 wX9_fail (ci := 9) rfl (by rfl) (As := [.int (-1000000001 : Int32)]) rfl rfl rfl dX9_judge_10 hs (fun x2 im2 h2 => ?_)
  exact k x2 im2 h2
theorem bX9_judge_13 {d : Nat} {b : Nat × Nat} {bo : Bool} {im : XI} {Q : Option Value → XS → XI → Prop} {l1 : Int32} {s0 : Int32}  (hq : Q (some (.int s0)) (SC bo) im) : V mX9_judge d b 13 [some (.ref 0), some (.int l1), none, none] [.int s0] (SC bo) im Q := by
  exact V.iret rfl dX9_judge_13 hq
theorem bX9_judge_14 {d : Nat} {b : Nat × Nat} {bo : Bool} {im : XI} {Q : Option Value → XS → XI → Prop} {l1 : Int32} {i1 : Nat} {P : Int32 → XI → Prop} (g0 : l1 = nI i1) (g1 : i1 < 4) (hs : SpI mX7_isMissing d [.ref (38 + 3 * i1)] (SC bo) im P) (k : ∀ x2 im2, P x2 im2 → V mX9_judge (d + 1) b 23 [some (.ref 0), some (.int l1), none, none] [.int x2] (SC bo) im2 Q) : V mX9_judge (d + 1) b 14 [some (.ref 0), some (.int l1), none, none] [] (SC bo) im Q := by
  refine V.aload_n dX9_judge_14 rfl rfl ?_
  refine V.getR fX9_47 rfl (by rfl) (by rfl) dX9_judge_15 ?_
  refine V.iload_n dX9_judge_18 rfl rfl ?_
  refine V.aald (i := i1) ⟨by rfl, by rfl, by rfl⟩ g0 g1 (xsheets g1) dX9_judge_19 ?_
  refine V.cVI rfl vX7_isMissing lkX9_244 wX7_isMissing (ci := 7) rfl (xsheet g1) (As := []) rfl rfl rfl dX9_judge_20 hs (fun x2 im2 h2 => ?_)
  exact k x2 im2 h2
theorem bX9_judge_23 {d : Nat} {b : Nat × Nat} {bo : Bool} {im : XI} {Q : Option Value → XS → XI → Prop} {l1 : Int32} {s0 : Int32}  (kt : s0 = 0 → V mX9_judge d b 33 [some (.ref 0), some (.int l1), none, none] [] (SC bo) im Q) (kf : ¬ s0 = 0 → V mX9_judge d b 26 [some (.ref 0), some (.int l1), none, none] [] (SC bo) im Q) : V mX9_judge d b 23 [some (.ref 0), some (.int l1), none, none] [.int s0] (SC bo) im Q := by
  refine V.if_eq (tgt := 33) dX9_judge_23 (by decide) (fun h => ?_) (fun h => ?_)
  · exact kt h
  · exact kf h
theorem bX9_judge_26 {d : Nat} {b : Nat × Nat} {bo : Bool} {im : XI} {Q : Option Value → XS → XI → Prop} {l1 : Int32} {P : Int32 → XI → Prop}  (hs : SpI mX9_fail d [.ref 0, .int (-1000000002 : Int32)] (SC bo) im P) (k : ∀ x2 im2, P x2 im2 → V mX9_judge (d + 1) b 32 [some (.ref 0), some (.int l1), none, none] [.int x2] (SC bo) im2 Q) : V mX9_judge (d + 1) b 26 [some (.ref 0), some (.int l1), none, none] [] (SC bo) im Q := by
  refine V.aload_n dX9_judge_26 rfl rfl ?_
  refine V.ldc kX9_212 dX9_judge_27 ?_
  refine V.cVI rfl vX9_fail lkX9_65 wX9_fail (ci := 9) rfl (by rfl) (As := [.int (-1000000002 : Int32)]) rfl rfl rfl dX9_judge_29 hs (fun x2 im2 h2 => ?_)
  exact k x2 im2 h2
theorem bX9_judge_32 {d : Nat} {b : Nat × Nat} {bo : Bool} {im : XI} {Q : Option Value → XS → XI → Prop} {l1 : Int32} {s0 : Int32}  (hq : Q (some (.int s0)) (SC bo) im) : V mX9_judge d b 32 [some (.ref 0), some (.int l1), none, none] [.int s0] (SC bo) im Q := by
  exact V.iret rfl dX9_judge_32 hq
theorem bX9_judge_33 {d : Nat} {b : Nat × Nat} {bo : Bool} {im : XI} {Q : Option Value → XS → XI → Prop} {l1 : Int32} {i1 : Nat} (g0 : l1 = nI i1) (g1 : i1 < 4) (k : V mX9_judge d b 45 [some (.ref 0), some (.int l1), some (.ref (39 + 3 * i1)), some (.int (0 : Int32))] [] (SC bo) im Q) : V mX9_judge d b 33 [some (.ref 0), some (.int l1), none, none] [] (SC bo) im Q := by
  refine V.aload_n dX9_judge_33 rfl rfl ?_
  refine V.getR fX9_47 rfl (by rfl) (by rfl) dX9_judge_34 ?_
  refine V.iload_n dX9_judge_37 rfl rfl ?_
  refine V.aald (i := i1) ⟨by rfl, by rfl, by rfl⟩ g0 g1 (xsheets g1) dX9_judge_38 ?_
  refine V.getR fX9_248 rfl (xsheet g1) (xsheetR g1) dX9_judge_39 ?_
  refine V.astore_n dX9_judge_42 rfl rfl rfl ?_
  refine V.iconst (v := 0) dX9_judge_43 (by decide) ?_
  refine V.istore_n dX9_judge_44 rfl rfl rfl ?_
  exact k
theorem bX9_judge_45 {d : Nat} {b : Nat × Nat} {bo : Bool} {im : XI} {Q : Option Value → XS → XI → Prop} {l1 : Int32} {l2 : Nat} {l3 : Int32} {P : Int32 → XI → Prop} (g0 : (SC bo).1[l2]? = some (.inl 6)) (hs : SpI mX6_size d [.ref l2] (SC bo) im P) (k : ∀ x2 im2, P x2 im2 → V mX9_judge (d + 1) b 50 [some (.ref 0), some (.int l1), some (.ref l2), some (.int l3)] [.int x2, .int l3] (SC bo) im2 Q) : V mX9_judge (d + 1) b 45 [some (.ref 0), some (.int l1), some (.ref l2), some (.int l3)] [] (SC bo) im Q := by
  refine V.iload_n dX9_judge_45 rfl rfl ?_
  refine V.aload_n dX9_judge_46 rfl rfl ?_
  refine V.cVI rfl vX6_size lkX9_150 wX6_size (ci := 6) rfl g0 (As := []) rfl rfl rfl dX9_judge_47 hs (fun x2 im2 h2 => ?_)
  exact k x2 im2 h2
theorem bX9_judge_50 {d : Nat} {b : Nat × Nat} {bo : Bool} {im : XI} {Q : Option Value → XS → XI → Prop} {l1 : Int32} {l2 : Nat} {l3 : Int32} {s0 : Int32} {s1 : Int32}  (kt : s1 ≤ s0 → V mX9_judge d b 83 [some (.ref 0), some (.int l1), some (.ref l2), some (.int l3)] [] (SC bo) im Q) (kf : ¬ s1 ≤ s0 → V mX9_judge d b 53 [some (.ref 0), some (.int l1), some (.ref l2), some (.int l3)] [] (SC bo) im Q) : V mX9_judge d b 50 [some (.ref 0), some (.int l1), some (.ref l2), some (.int l3)] [.int s1, .int s0] (SC bo) im Q := by
  refine V.icmp_ge (tgt := 83) dX9_judge_50 (by decide) (fun h => ?_) (fun h => ?_)
  · exact kt h
  · exact kf h
theorem bX9_judge_53 {d : Nat} {b : Nat × Nat} {bo : Bool} {im : XI} {Q : Option Value → XS → XI → Prop} {l1 : Int32} {l2 : Nat} {l3 : Int32} {P : Int32 → XI → Prop} (g0 : (SC bo).1[l2]? = some (.inl 6)) (hs : SpI mX6_at d [.ref l2, .int l3] (SC bo) im P) (k : ∀ x2 im2, P x2 im2 → V mX9_judge (d + 1) b 58 [some (.ref 0), some (.int l1), some (.ref l2), some (.int l3)] [.int x2] (SC bo) im2 Q) : V mX9_judge (d + 1) b 53 [some (.ref 0), some (.int l1), some (.ref l2), some (.int l3)] [] (SC bo) im Q := by
  refine V.aload_n dX9_judge_53 rfl rfl ?_
  refine V.iload_n dX9_judge_54 rfl rfl ?_
  refine V.cVI rfl vX6_at lkX9_272 wX6_at (ci := 6) rfl g0 (As := [.int l3]) rfl rfl rfl dX9_judge_55 hs (fun x2 im2 h2 => ?_)
  exact k x2 im2 h2
theorem bX9_judge_58 {d : Nat} {b : Nat × Nat} {bo : Bool} {im : XI} {Q : Option Value → XS → XI → Prop} {l1 : Int32} {l2 : Nat} {l3 : Int32} {s0 : Int32} {P : Int32 → XI → Prop}  (hs : SpI mX2_shutSet d [.ref 1, .int ((im 1 8) + l3)] (SC bo) im P) (k : ∀ x2 im2, P x2 im2 → V mX9_judge (d + 1) b 74 [some (.ref 0), some (.int l1), some (.ref l2), some (.int l3)] [.int x2, .int s0] (SC bo) im2 Q) : V mX9_judge (d + 1) b 58 [some (.ref 0), some (.int l1), some (.ref l2), some (.int l3)] [.int s0] (SC bo) im Q := by
  refine V.aload_n dX9_judge_58 rfl rfl ?_
  refine V.getR fX9_12 rfl (by rfl) (by rfl) dX9_judge_59 ?_
  refine V.aload_n dX9_judge_62 rfl rfl ?_
  refine V.getR fX9_12 rfl (by rfl) (by rfl) dX9_judge_63 ?_
  refine V.getI fX9_103 rfl (by rfl) dX9_judge_66 ?_
  refine V.iload_n dX9_judge_69 rfl rfl ?_
  refine V.iadd dX9_judge_70 ?_
  refine V.cVI rfl vX2_shutSet lkX9_143 wX2_shutSet (ci := 2) rfl (by rfl) (As := [.int ((im 1 8) + l3)]) rfl rfl rfl dX9_judge_71 hs (fun x2 im2 h2 => ?_)
  exact k x2 im2 h2
theorem bX9_judge_74 {d : Nat} {b : Nat × Nat} {bo : Bool} {im : XI} {Q : Option Value → XS → XI → Prop} {l1 : Int32} {l2 : Nat} {l3 : Int32} {s0 : Int32} {s1 : Int32}  (kt : ¬ s0 = s1 → V mX9_judge d b 83 [some (.ref 0), some (.int l1), some (.ref l2), some (.int l3)] [] (SC bo) im Q) (kf : s0 = s1 → V mX9_judge d b 77 [some (.ref 0), some (.int l1), some (.ref l2), some (.int l3)] [] (SC bo) im Q) : V mX9_judge d b 74 [some (.ref 0), some (.int l1), some (.ref l2), some (.int l3)] [.int s1, .int s0] (SC bo) im Q := by
  refine V.icmp_ne (tgt := 83) dX9_judge_74 (by decide) (fun h => ?_) (fun h => ?_)
  · exact kt h
  · exact kf h
theorem bX9_judge_77 {d : Nat} {b : Nat × Nat} {bo : Bool} {im : XI} {Q : Option Value → XS → XI → Prop} {l1 : Int32} {l2 : Nat} {l3 : Int32}  (k : V mX9_judge d b 45 [some (.ref 0), some (.int l1), some (.ref l2), some (.int (l3 + (1 : Int32)))] [] (SC bo) im Q) : V mX9_judge d b 77 [some (.ref 0), some (.int l1), some (.ref l2), some (.int l3)] [] (SC bo) im Q := by
  refine V.iinc (v := (l3 + (1 : Int32))) dX9_judge_77 rfl rfl rfl ?_
  refine V.goto (tgt := 45) dX9_judge_80 (by decide) ?_
  exact k
theorem bX9_judge_83 {d : Nat} {b : Nat × Nat} {bo : Bool} {im : XI} {Q : Option Value → XS → XI → Prop} {l1 : Int32} {l2 : Nat} {l3 : Int32}  (hq : Q (some (.int l3)) (SC bo) im) : V mX9_judge d b 83 [some (.ref 0), some (.int l1), some (.ref l2), some (.int l3)] [] (SC bo) im Q := by
  refine V.iload_n dX9_judge_83 rfl rfl ?_
  exact V.iret rfl dX9_judge_84 hq
theorem bX9_image_0N {d : Nat} {b : Nat × Nat}  {im : XI} {Q : Option Value → XS → XI → Prop}   (k : V mX9_image d b 7 [some (.ref 0)] [] (SC false) im Q) : V mX9_image d b 0 [some (.ref 0)] [] (SC false) im Q := by
  refine V.aload_n dX9_image_0 rfl rfl ?_
  refine V.getN fX9_295 rfl (by rfl) (by rfl) dX9_image_1 ?_
  refine V.nonnullN dX9_image_4 ?_
  exact k
theorem bX9_image_0R {d : Nat} {b : Nat × Nat}  {im : XI} {Q : Option Value → XS → XI → Prop}   (k : V mX9_image d b 18 [some (.ref 0)] [] (SC true) im Q) : V mX9_image d b 0 [some (.ref 0)] [] (SC true) im Q := by
  refine V.aload_n dX9_image_0 rfl rfl ?_
  refine V.getR fX9_295 rfl (by rfl) (by rfl) dX9_image_1 ?_
  refine V.nonnull (tgt := 18) dX9_image_4 (by decide) ?_
  exact k
theorem bX9_image_7 {d : Nat} {b : Nat × Nat} {bo : Bool} {im : XI} {Q : Option Value → XS → XI → Prop} {b1 : Nat × Nat} {P : XS → XI → Prop} {bc be : Nat × Nat} (g0 : 1 + b1.1 ≤ b.1 ∧ 10 + b1.2 ≤ b.2) (hs : SpC mX2_init d bc [.ref (SC bo).1.length] (xpush (SC bo) (.inl 2)) (xz im (SC bo).1.length) P) (hbud : bc.1 + be.1 ≤ b1.1 ∧ bc.2 + be.2 ≤ b1.2) (hP : ∀ S2 im2, P S2 im2 → S2.1.length = ((xpush (SC bo) (.inl 2))).1.length + bc.1) (k : ∀ S2 im2, P S2 im2 → V mX9_image (d + 1) be 15 [some (.ref 0)] [.ref (SC bo).1.length, .ref 0] S2 im2 Q) : V mX9_image (d + 1) b 7 [some (.ref 0)] [] (SC bo) im Q := by
  refine V.aload_n dX9_image_7 rfl rfl ?_
  refine V.new (ci := 2) rfl nwX9_9.1 nwX9_9.2.1 nwX9_9.2.2 g0 dX9_image_8 ?_
  refine V.dup dX9_image_11 rfl ?_
  refine V.cC rfl vX2_init lkX9_11 wX2_init rfl rfl (As := []) rfl rfl rfl dX9_image_12 hs hbud hP (fun S2 im2 h2 => ?_)
  exact k S2 im2 h2
theorem bX9_image_15 {d : Nat} {b : Nat × Nat} {bo : Bool} {im : XI} {Q : Option Value → XS → XI → Prop} {s0 : Nat} {s1 : Nat} (g0 : (SC bo).1[s0]? = some (.inl 9)) (k : V mX9_image d b 18 [some (.ref 0)] [] ((SC bo).1, xur (SC bo).2 s0 6 (some s1)) im Q) : V mX9_image d b 15 [some (.ref 0)] [.ref s1, .ref s0] (SC bo) im Q := by
  refine V.putR fX9_295 (fun h => by cases h) rfl rfl g0 dX9_image_15 ?_
  exact k
theorem bX9_image_18 {d : Nat} {b : Nat × Nat} {bo : Bool} {im : XI} {Q : Option Value → XS → XI → Prop} {r1 : Nat} {P : XI → Prop} (g0 : (SC bo).2 0 6 = some r1) (g1 : (SC bo).1[r1]? = some (.inl 2)) (hs : SpV mX2_beLike d [.ref r1, .ref 1] (SC bo) im P) (k : ∀ im2, P im2 → V mX9_image (d + 1) b 29 [some (.ref 0)] [] (SC bo) im2 Q) : V mX9_image (d + 1) b 18 [some (.ref 0)] [] (SC bo) im Q := by
  refine V.aload_n dX9_image_18 rfl rfl ?_
  refine V.getR fX9_295 rfl (by rfl) g0 dX9_image_19 ?_
  refine V.aload_n dX9_image_22 rfl rfl ?_
  refine V.getR fX9_12 rfl (by rfl) (by rfl) dX9_image_23 ?_
  refine V.cVV rfl vX2_beLike lkX9_298 wX2_beLike (ci := 2) rfl g1 (As := [.ref 1]) rfl rfl rfl dX9_image_26 hs (fun im2 h2 => ?_)
  exact k im2 h2
theorem bX9_image_29 {d : Nat} {b : Nat × Nat} {bo : Bool} {im : XI} {Q : Option Value → XS → XI → Prop}   (hq : Q (some (.int ((xup im 0 7 ((im 0 7) + (1 : Int32))) 0 7))) (SC bo) (xup im 0 7 ((im 0 7) + (1 : Int32)))) : V mX9_image d b 29 [some (.ref 0)] [] (SC bo) im Q := by
  refine V.aload_n dX9_image_29 rfl rfl ?_
  refine V.dup dX9_image_30 rfl ?_
  refine V.getI fX9_301 rfl (by rfl) dX9_image_31 ?_
  refine V.iconst (v := 1) dX9_image_34 (by decide) ?_
  refine V.iadd dX9_image_35 ?_
  refine V.putI fX9_301 (fun h => by cases h) rfl (by rfl) dX9_image_36 ?_
  refine V.aload_n dX9_image_39 rfl rfl ?_
  refine V.getI fX9_301 rfl (by rfl) dX9_image_40 ?_
  exact V.iret rfl dX9_image_43 hq
theorem bX9_restore_0N {d : Nat} {b : Nat × Nat}  {im : XI} {Q : Option Value → XS → XI → Prop}   (k : V mX9_restore d b 7 [some (.ref 0)] [] (SC false) im Q) : V mX9_restore d b 0 [some (.ref 0)] [] (SC false) im Q := by
  refine V.aload_n dX9_restore_0 rfl rfl ?_
  refine V.getN fX9_295 rfl (by rfl) (by rfl) dX9_restore_1 ?_
  refine V.nonnullN dX9_restore_4 ?_
  exact k
theorem bX9_restore_0R {d : Nat} {b : Nat × Nat}  {im : XI} {Q : Option Value → XS → XI → Prop}   (k : V mX9_restore d b 14 [some (.ref 0)] [] (SC true) im Q) : V mX9_restore d b 0 [some (.ref 0)] [] (SC true) im Q := by
  refine V.aload_n dX9_restore_0 rfl rfl ?_
  refine V.getR fX9_295 rfl (by rfl) (by rfl) dX9_restore_1 ?_
  refine V.nonnull (tgt := 14) dX9_restore_4 (by decide) ?_
  exact k
theorem bX9_restore_7 {d : Nat} {b : Nat × Nat} {bo : Bool} {im : XI} {Q : Option Value → XS → XI → Prop} {P : Int32 → XI → Prop}  (hs : SpI mX9_fail d [.ref 0, .int (-1000000002 : Int32)] (SC bo) im P) (k : ∀ x2 im2, P x2 im2 → V mX9_restore (d + 1) b 13 [some (.ref 0)] [.int x2] (SC bo) im2 Q) : V mX9_restore (d + 1) b 7 [some (.ref 0)] [] (SC bo) im Q := by
  refine V.aload_n dX9_restore_7 rfl rfl ?_
  refine V.ldc kX9_212 dX9_restore_8 ?_
  refine V.cVI rfl vX9_fail lkX9_65 wX9_fail (ci := 9) rfl (by rfl) (As := [.int (-1000000002 : Int32)]) rfl rfl rfl dX9_restore_10 hs (fun x2 im2 h2 => ?_)
  exact k x2 im2 h2
theorem bX9_restore_13 {d : Nat} {b : Nat × Nat} {bo : Bool} {im : XI} {Q : Option Value → XS → XI → Prop} {s0 : Int32}  (hq : Q (some (.int s0)) (SC bo) im) : V mX9_restore d b 13 [some (.ref 0)] [.int s0] (SC bo) im Q := by
  exact V.iret rfl dX9_restore_13 hq
theorem bX9_restore_14 {d : Nat} {b : Nat × Nat} {bo : Bool} {im : XI} {Q : Option Value → XS → XI → Prop} {r1 : Nat} {P : XI → Prop} (g0 : (SC bo).2 0 6 = some r1) (hs : SpV mX2_beLike d [.ref 1, .ref r1] (SC bo) im P) (k : ∀ im2, P im2 → V mX9_restore (d + 1) b 25 [some (.ref 0)] [] (SC bo) im2 Q) : V mX9_restore (d + 1) b 14 [some (.ref 0)] [] (SC bo) im Q := by
  refine V.aload_n dX9_restore_14 rfl rfl ?_
  refine V.getR fX9_12 rfl (by rfl) (by rfl) dX9_restore_15 ?_
  refine V.aload_n dX9_restore_18 rfl rfl ?_
  refine V.getR fX9_295 rfl (by rfl) g0 dX9_restore_19 ?_
  refine V.cVV rfl vX2_beLike lkX9_298 wX2_beLike (ci := 2) rfl (by rfl) (As := [.ref r1]) rfl rfl rfl dX9_restore_22 hs (fun im2 h2 => ?_)
  exact k im2 h2
theorem bX9_restore_25 {d : Nat} {b : Nat × Nat} {bo : Bool} {im : XI} {Q : Option Value → XS → XI → Prop}   (hq : Q (some (.int (im 1 8))) (SC bo) im) : V mX9_restore d b 25 [some (.ref 0)] [] (SC bo) im Q := by
  refine V.aload_n dX9_restore_25 rfl rfl ?_
  refine V.getR fX9_12 rfl (by rfl) (by rfl) dX9_restore_26 ?_
  refine V.getI fX9_103 rfl (by rfl) dX9_restore_29 ?_
  exact V.iret rfl dX9_restore_32 hq
theorem bX9_tell_0 {d : Nat} {b : Nat × Nat} {bo : Bool} {im : XI} {Q : Option Value → XS → XI → Prop} {l1 : Int32} {P : Int32 → XI → Prop}  (hs : SpI mX6_add d [.ref 14, .int l1] (SC bo) im P) (k : ∀ x2 im2, P x2 im2 → V mX9_tell (d + 1) b 11 [some (.ref 0), some (.int l1)] [.int x2] (SC bo) im2 Q) : V mX9_tell (d + 1) b 0 [some (.ref 0), some (.int l1)] [] (SC bo) im Q := by
  refine V.aload_n dX9_tell_0 rfl rfl ?_
  refine V.getR fX9_12 rfl (by rfl) (by rfl) dX9_tell_1 ?_
  refine V.getR fX9_304 rfl (by rfl) (by rfl) dX9_tell_4 ?_
  refine V.iload_n dX9_tell_7 rfl rfl ?_
  refine V.cVI rfl vX6_add lkX9_158 wX6_add (ci := 6) rfl (by rfl) (As := [.int l1]) rfl rfl rfl dX9_tell_8 hs (fun x2 im2 h2 => ?_)
  exact k x2 im2 h2
theorem bX9_tell_11 {d : Nat} {b : Nat × Nat} {bo : Bool} {im : XI} {Q : Option Value → XS → XI → Prop} {l1 : Int32} {s0 : Int32}  (kt : ¬ s0 = 0 → V mX9_tell d b 21 [some (.ref 0), some (.int l1)] [] (SC bo) im Q) (kf : s0 = 0 → V mX9_tell d b 14 [some (.ref 0), some (.int l1)] [] (SC bo) im Q) : V mX9_tell d b 11 [some (.ref 0), some (.int l1)] [.int s0] (SC bo) im Q := by
  refine V.if_ne (tgt := 21) dX9_tell_11 (by decide) (fun h => ?_) (fun h => ?_)
  · exact kt h
  · exact kf h
theorem bX9_tell_14 {d : Nat} {b : Nat × Nat} {bo : Bool} {im : XI} {Q : Option Value → XS → XI → Prop} {l1 : Int32} {P : Int32 → XI → Prop}  (hs : SpI mX9_fail d [.ref 0, .int (-1000000004 : Int32)] (SC bo) im P) (k : ∀ x2 im2, P x2 im2 → V mX9_tell (d + 1) b 20 [some (.ref 0), some (.int l1)] [.int x2] (SC bo) im2 Q) : V mX9_tell (d + 1) b 14 [some (.ref 0), some (.int l1)] [] (SC bo) im Q := by
  refine V.aload_n dX9_tell_14 rfl rfl ?_
  refine V.ldc kX9_73 dX9_tell_15 ?_
  refine V.cVI rfl vX9_fail lkX9_65 wX9_fail (ci := 9) rfl (by rfl) (As := [.int (-1000000004 : Int32)]) rfl rfl rfl dX9_tell_17 hs (fun x2 im2 h2 => ?_)
  exact k x2 im2 h2
theorem bX9_tell_20 {d : Nat} {b : Nat × Nat} {bo : Bool} {im : XI} {Q : Option Value → XS → XI → Prop} {l1 : Int32} {s0 : Int32}  (hq : Q (some (.int s0)) (SC bo) im) : V mX9_tell d b 20 [some (.ref 0), some (.int l1)] [.int s0] (SC bo) im Q := by
  exact V.iret rfl dX9_tell_20 hq
theorem bX9_tell_21 {d : Nat} {b : Nat × Nat} {bo : Bool} {im : XI} {Q : Option Value → XS → XI → Prop} {l1 : Int32} {P : Int32 → XI → Prop}  (hs : SpI mX6_size d [.ref 14] (SC bo) im P) (k : ∀ x2 im2, P x2 im2 → V mX9_tell (d + 1) b 31 [some (.ref 0), some (.int l1)] [.int x2] (SC bo) im2 Q) : V mX9_tell (d + 1) b 21 [some (.ref 0), some (.int l1)] [] (SC bo) im Q := by
  refine V.aload_n dX9_tell_21 rfl rfl ?_
  refine V.getR fX9_12 rfl (by rfl) (by rfl) dX9_tell_22 ?_
  refine V.getR fX9_304 rfl (by rfl) (by rfl) dX9_tell_25 ?_
  refine V.cVI rfl vX6_size lkX9_150 wX6_size (ci := 6) rfl (by rfl) (As := []) rfl rfl rfl dX9_tell_28 hs (fun x2 im2 h2 => ?_)
  exact k x2 im2 h2
theorem bX9_tell_31 {d : Nat} {b : Nat × Nat} {bo : Bool} {im : XI} {Q : Option Value → XS → XI → Prop} {l1 : Int32} {s0 : Int32}  (hq : Q (some (.int s0)) (SC bo) im) : V mX9_tell d b 31 [some (.ref 0), some (.int l1)] [.int s0] (SC bo) im Q := by
  exact V.iret rfl dX9_tell_31 hq
theorem bX9_check_0 {d : Nat} {b : Nat × Nat} {bo : Bool} {im : XI} {Q : Option Value → XS → XI → Prop}   (k : V mX9_check d b 10 [some (.ref 0), some (.ref 14), some (.int (0 : Int32)), none] [] (SC bo) im Q) : V mX9_check d b 0 [some (.ref 0), none, none, none] [] (SC bo) im Q := by
  refine V.aload_n dX9_check_0 rfl rfl ?_
  refine V.getR fX9_12 rfl (by rfl) (by rfl) dX9_check_1 ?_
  refine V.getR fX9_304 rfl (by rfl) (by rfl) dX9_check_4 ?_
  refine V.astore_n dX9_check_7 rfl rfl rfl ?_
  refine V.iconst (v := 0) dX9_check_8 (by decide) ?_
  refine V.istore_n dX9_check_9 rfl rfl rfl ?_
  exact k
theorem bX9_check_10 {d : Nat} {b : Nat × Nat} {bo : Bool} {im : XI} {Q : Option Value → XS → XI → Prop} {l1 : Nat} {l2 : Int32} {P : Int32 → XI → Prop} (g0 : (SC bo).1[l1]? = some (.inl 6)) (hs : SpI mX6_size d [.ref l1] (SC bo) im P) (k : ∀ x2 im2, P x2 im2 → V mX9_check (d + 1) b 15 [some (.ref 0), some (.ref l1), some (.int l2), none] [.int x2, .int l2] (SC bo) im2 Q) : V mX9_check (d + 1) b 10 [some (.ref 0), some (.ref l1), some (.int l2), none] [] (SC bo) im Q := by
  refine V.iload_n dX9_check_10 rfl rfl ?_
  refine V.aload_n dX9_check_11 rfl rfl ?_
  refine V.cVI rfl vX6_size lkX9_150 wX6_size (ci := 6) rfl g0 (As := []) rfl rfl rfl dX9_check_12 hs (fun x2 im2 h2 => ?_)
  exact k x2 im2 h2
theorem bX9_check_15 {d : Nat} {b : Nat × Nat} {bo : Bool} {im : XI} {Q : Option Value → XS → XI → Prop} {l1 : Nat} {l2 : Int32} {s0 : Int32} {s1 : Int32}  (kt : s1 ≤ s0 → V mX9_check d b 55 [some (.ref 0), some (.ref l1), some (.int l2), none] [] (SC bo) im Q) (kf : ¬ s1 ≤ s0 → V mX9_check d b 18 [some (.ref 0), some (.ref l1), some (.int l2), none] [] (SC bo) im Q) : V mX9_check d b 15 [some (.ref 0), some (.ref l1), some (.int l2), none] [.int s1, .int s0] (SC bo) im Q := by
  refine V.icmp_ge (tgt := 55) dX9_check_15 (by decide) (fun h => ?_) (fun h => ?_)
  · exact kt h
  · exact kf h
theorem bX9_check_18 {d : Nat} {b : Nat × Nat} {bo : Bool} {im : XI} {Q : Option Value → XS → XI → Prop} {l1 : Nat} {l2 : Int32} {P : Int32 → XI → Prop}  (hs : SpI mX2_hasDoing d [.ref 1, .int l2] (SC bo) im P) (k : ∀ x2 im2, P x2 im2 → V mX9_check (d + 1) b 26 [some (.ref 0), some (.ref l1), some (.int l2), none] [.int x2] (SC bo) im2 Q) : V mX9_check (d + 1) b 18 [some (.ref 0), some (.ref l1), some (.int l2), none] [] (SC bo) im Q := by
  refine V.aload_n dX9_check_18 rfl rfl ?_
  refine V.getR fX9_12 rfl (by rfl) (by rfl) dX9_check_19 ?_
  refine V.iload_n dX9_check_22 rfl rfl ?_
  refine V.cVI rfl vX2_hasDoing lkX9_140 wX2_hasDoing (ci := 2) rfl (by rfl) (As := [.int l2]) rfl rfl rfl dX9_check_23 hs (fun x2 im2 h2 => ?_)
  exact k x2 im2 h2
theorem bX9_check_26 {d : Nat} {b : Nat × Nat} {bo : Bool} {im : XI} {Q : Option Value → XS → XI → Prop} {l1 : Nat} {l2 : Int32} {s0 : Int32}  (kt : s0 = 0 → V mX9_check d b 55 [some (.ref 0), some (.ref l1), some (.int l2), none] [] (SC bo) im Q) (kf : ¬ s0 = 0 → V mX9_check d b 29 [some (.ref 0), some (.ref l1), some (.int l2), none] [] (SC bo) im Q) : V mX9_check d b 26 [some (.ref 0), some (.ref l1), some (.int l2), none] [.int s0] (SC bo) im Q := by
  refine V.if_eq (tgt := 55) dX9_check_26 (by decide) (fun h => ?_) (fun h => ?_)
  · exact kt h
  · exact kf h
theorem bX9_check_29 {d : Nat} {b : Nat × Nat} {bo : Bool} {im : XI} {Q : Option Value → XS → XI → Prop} {l1 : Nat} {l2 : Int32} {P : Int32 → XI → Prop} (g0 : (SC bo).1[l1]? = some (.inl 6)) (hs : SpI mX6_at d [.ref l1, .int l2] (SC bo) im P) (k : ∀ x2 im2, P x2 im2 → V mX9_check (d + 1) b 34 [some (.ref 0), some (.ref l1), some (.int l2), none] [.int x2] (SC bo) im2 Q) : V mX9_check (d + 1) b 29 [some (.ref 0), some (.ref l1), some (.int l2), none] [] (SC bo) im Q := by
  refine V.aload_n dX9_check_29 rfl rfl ?_
  refine V.iload_n dX9_check_30 rfl rfl ?_
  refine V.cVI rfl vX6_at lkX9_272 wX6_at (ci := 6) rfl g0 (As := [.int l2]) rfl rfl rfl dX9_check_31 hs (fun x2 im2 h2 => ?_)
  exact k x2 im2 h2
theorem bX9_check_34 {d : Nat} {b : Nat × Nat} {bo : Bool} {im : XI} {Q : Option Value → XS → XI → Prop} {l1 : Nat} {l2 : Int32} {s0 : Int32} {i1 : Nat} (g0 : l2 = nI i1) (g1 : i1 < 6) (kt : ¬ s0 = (im (22 + i1) 1) → V mX9_check d b 55 [some (.ref 0), some (.ref l1), some (.int l2), none] [] (SC bo) im Q) (kf : s0 = (im (22 + i1) 1) → V mX9_check d b 49 [some (.ref 0), some (.ref l1), some (.int l2), none] [] (SC bo) im Q) : V mX9_check d b 34 [some (.ref 0), some (.ref l1), some (.int l2), none] [.int s0] (SC bo) im Q := by
  refine V.aload_n dX9_check_34 rfl rfl ?_
  refine V.getR fX9_12 rfl (by rfl) (by rfl) dX9_check_35 ?_
  refine V.getR fX9_125 rfl (by rfl) (by rfl) dX9_check_38 ?_
  refine V.iload_n dX9_check_41 rfl rfl ?_
  refine V.aald (i := i1) ⟨by rfl, by rfl, by rfl⟩ g0 g1 (xdoings g1) dX9_check_42 ?_
  refine V.getI fX9_134 rfl (xdoing g1) dX9_check_43 ?_
  refine V.icmp_ne (tgt := 55) dX9_check_46 (by decide) (fun h => ?_) (fun h => ?_)
  · exact kt h
  · exact kf h
theorem bX9_check_49 {d : Nat} {b : Nat × Nat} {bo : Bool} {im : XI} {Q : Option Value → XS → XI → Prop} {l1 : Nat} {l2 : Int32}  (k : V mX9_check d b 10 [some (.ref 0), some (.ref l1), some (.int (l2 + (1 : Int32))), none] [] (SC bo) im Q) : V mX9_check d b 49 [some (.ref 0), some (.ref l1), some (.int l2), none] [] (SC bo) im Q := by
  refine V.iinc (v := (l2 + (1 : Int32))) dX9_check_49 rfl rfl rfl ?_
  refine V.goto (tgt := 10) dX9_check_52 (by decide) ?_
  exact k
theorem bX9_check_55 {d : Nat} {b : Nat × Nat} {bo : Bool} {im : XI} {Q : Option Value → XS → XI → Prop} {l1 : Nat} {l2 : Int32} {P : Int32 → XI → Prop} (g0 : (SC bo).1[l1]? = some (.inl 6)) (hs : SpI mX6_size d [.ref l1] (SC bo) im P) (k : ∀ x2 im2, P x2 im2 → V mX9_check (d + 1) b 60 [some (.ref 0), some (.ref l1), some (.int l2), none] [.int x2, .int l2] (SC bo) im2 Q) : V mX9_check (d + 1) b 55 [some (.ref 0), some (.ref l1), some (.int l2), none] [] (SC bo) im Q := by
  refine V.iload_n dX9_check_55 rfl rfl ?_
  refine V.aload_n dX9_check_56 rfl rfl ?_
  refine V.cVI rfl vX6_size lkX9_150 wX6_size (ci := 6) rfl g0 (As := []) rfl rfl rfl dX9_check_57 hs (fun x2 im2 h2 => ?_)
  exact k x2 im2 h2
theorem bX9_check_60 {d : Nat} {b : Nat × Nat} {bo : Bool} {im : XI} {Q : Option Value → XS → XI → Prop} {l1 : Nat} {l2 : Int32} {s0 : Int32} {s1 : Int32}  (kt : ¬ s0 = s1 → V mX9_check d b 67 [some (.ref 0), some (.ref l1), some (.int l2), none] [] (SC bo) im Q) (kf : s0 = s1 → V mX9_check d b 63 [some (.ref 0), some (.ref l1), some (.int l2), none] [] (SC bo) im Q) : V mX9_check d b 60 [some (.ref 0), some (.ref l1), some (.int l2), none] [.int s1, .int s0] (SC bo) im Q := by
  refine V.icmp_ne (tgt := 67) dX9_check_60 (by decide) (fun h => ?_) (fun h => ?_)
  · exact kt h
  · exact kf h
theorem bX9_check_63 {d : Nat} {b : Nat × Nat} {bo : Bool} {im : XI} {Q : Option Value → XS → XI → Prop} {l1 : Nat} {l2 : Int32}  (k : V mX9_check d b 68 [some (.ref 0), some (.ref l1), some (.int l2), none] [.int (1 : Int32)] (SC bo) im Q) : V mX9_check d b 63 [some (.ref 0), some (.ref l1), some (.int l2), none] [] (SC bo) im Q := by
  refine V.iconst (v := 1) dX9_check_63 (by decide) ?_
  refine V.goto (tgt := 68) dX9_check_64 (by decide) ?_
  exact k
theorem bX9_check_67 {d : Nat} {b : Nat × Nat} {bo : Bool} {im : XI} {Q : Option Value → XS → XI → Prop} {l1 : Nat} {l2 : Int32}  (k : V mX9_check d b 68 [some (.ref 0), some (.ref l1), some (.int l2), none] [.int (0 : Int32)] (SC bo) im Q) : V mX9_check d b 67 [some (.ref 0), some (.ref l1), some (.int l2), none] [] (SC bo) im Q := by
  refine V.iconst (v := 0) dX9_check_67 (by decide) ?_
  exact k
theorem bX9_check_68 {d : Nat} {b : Nat × Nat} {bo : Bool} {im : XI} {Q : Option Value → XS → XI → Prop} {l1 : Nat} {l2 : Int32} {s0 : Int32} {P : XI → Prop} (g0 : (SC bo).1[l1]? = some (.inl 6)) (hs : SpV mX6_clear d [.ref l1] (SC bo) im P) (k : ∀ im2, P im2 → V mX9_check (d + 1) b 73 [some (.ref 0), some (.ref l1), some (.int l2), some (.int s0)] [] (SC bo) im2 Q) : V mX9_check (d + 1) b 68 [some (.ref 0), some (.ref l1), some (.int l2), none] [.int s0] (SC bo) im Q := by
  refine V.istore_n dX9_check_68 rfl rfl rfl ?_
  refine V.aload_n dX9_check_69 rfl rfl ?_
  refine V.cVV rfl vX6_clear lkX9_167 wX6_clear (ci := 6) rfl g0 (As := []) rfl rfl rfl dX9_check_70 hs (fun im2 h2 => ?_)
  exact k im2 h2
theorem bX9_check_73 {d : Nat} {b : Nat × Nat} {bo : Bool} {im : XI} {Q : Option Value → XS → XI → Prop} {l1 : Nat} {l2 : Int32} {l3 : Int32}  (kt : l3 = 0 → V mX9_check d b 81 [some (.ref 0), some (.ref l1), some (.int l2), some (.int l3)] [] (SC bo) im Q) (kf : ¬ l3 = 0 → V mX9_check d b 77 [some (.ref 0), some (.ref l1), some (.int l2), some (.int l3)] [] (SC bo) im Q) : V mX9_check d b 73 [some (.ref 0), some (.ref l1), some (.int l2), some (.int l3)] [] (SC bo) im Q := by
  refine V.iload_n dX9_check_73 rfl rfl ?_
  refine V.if_eq (tgt := 81) dX9_check_74 (by decide) (fun h => ?_) (fun h => ?_)
  · exact kt h
  · exact kf h
theorem bX9_check_77 {d : Nat} {b : Nat × Nat} {bo : Bool} {im : XI} {Q : Option Value → XS → XI → Prop} {l1 : Nat} {l2 : Int32} {l3 : Int32}  (k : V mX9_check d b 84 [some (.ref 0), some (.ref l1), some (.int l2), some (.int l3)] [.int (0 : Int32)] (SC bo) im Q) : V mX9_check d b 77 [some (.ref 0), some (.ref l1), some (.int l2), some (.int l3)] [] (SC bo) im Q := by
  refine V.iconst (v := 0) dX9_check_77 (by decide) ?_
  refine V.goto (tgt := 84) dX9_check_78 (by decide) ?_
  exact k
theorem bX9_check_81 {d : Nat} {b : Nat × Nat} {bo : Bool} {im : XI} {Q : Option Value → XS → XI → Prop} {l1 : Nat} {l2 : Int32} {l3 : Int32}  (k : V mX9_check d b 84 [some (.ref 0), some (.ref l1), some (.int l2), some (.int l3)] [.int ((1 : Int32) + l2)] (SC bo) im Q) : V mX9_check d b 81 [some (.ref 0), some (.ref l1), some (.int l2), some (.int l3)] [] (SC bo) im Q := by
  refine V.iconst (v := 1) dX9_check_81 (by decide) ?_
  refine V.iload_n dX9_check_82 rfl rfl ?_
  refine V.iadd dX9_check_83 ?_
  exact k
theorem bX9_check_84 {d : Nat} {b : Nat × Nat} {bo : Bool} {im : XI} {Q : Option Value → XS → XI → Prop} {l1 : Nat} {l2 : Int32} {l3 : Int32} {s0 : Int32}  (hq : Q (some (.int s0)) (SC bo) im) : V mX9_check d b 84 [some (.ref 0), some (.ref l1), some (.int l2), some (.int l3)] [.int s0] (SC bo) im Q := by
  exact V.iret rfl dX9_check_84 hq
theorem bX9_count_0 {d : Nat} {b : Nat × Nat} {bo : Bool} {im : XI} {Q : Option Value → XS → XI → Prop} {l1 : Int32}  (k0 : l1 = 0 → V mX9_count d b 48 [some (.ref 0), some (.int l1)] [] (SC bo) im Q) (k1 : l1 = 1 → V mX9_count d b 56 [some (.ref 0), some (.int l1)] [] (SC bo) im Q) (k2 : l1 = 2 → V mX9_count d b 64 [some (.ref 0), some (.int l1)] [] (SC bo) im Q) (k3 : l1 = 3 → V mX9_count d b 72 [some (.ref 0), some (.int l1)] [] (SC bo) im Q) (k4 : l1 = 4 → V mX9_count d b 80 [some (.ref 0), some (.int l1)] [] (SC bo) im Q) (k5 : l1 = 5 → V mX9_count d b 91 [some (.ref 0), some (.int l1)] [] (SC bo) im Q) (k6 : l1 = 6 → V mX9_count d b 102 [some (.ref 0), some (.int l1)] [] (SC bo) im Q) (k7 : l1 = 7 → V mX9_count d b 113 [some (.ref 0), some (.int l1)] [] (SC bo) im Q) (kd : ¬ l1 = 0 → ¬ l1 = 1 → ¬ l1 = 2 → ¬ l1 = 3 → ¬ l1 = 4 → ¬ l1 = 5 → ¬ l1 = 6 → ¬ l1 = 7 → V mX9_count d b 121 [some (.ref 0), some (.int l1)] [] (SC bo) im Q) : V mX9_count d b 0 [some (.ref 0), some (.int l1)] [] (SC bo) im Q := by
  refine V.iload_n dX9_count_0 rfl rfl ?_
  by_cases c0 : l1 = 0
  · exact V.tableIn (tgt := 48) (off := 47) dX9_count_1 (by rw [c0]; decide) (by rw [c0]; decide) (by rw [c0] <;> rfl) (by decide) (k0 c0)
  · skip
    by_cases c1 : l1 = 1
    · exact V.tableIn (tgt := 56) (off := 55) dX9_count_1 (by rw [c1]; decide) (by rw [c1]; decide) (by rw [c1] <;> rfl) (by decide) (k1 c1)
    · skip
      by_cases c2 : l1 = 2
      · exact V.tableIn (tgt := 64) (off := 63) dX9_count_1 (by rw [c2]; decide) (by rw [c2]; decide) (by rw [c2] <;> rfl) (by decide) (k2 c2)
      · skip
        by_cases c3 : l1 = 3
        · exact V.tableIn (tgt := 72) (off := 71) dX9_count_1 (by rw [c3]; decide) (by rw [c3]; decide) (by rw [c3] <;> rfl) (by decide) (k3 c3)
        · skip
          by_cases c4 : l1 = 4
          · exact V.tableIn (tgt := 80) (off := 79) dX9_count_1 (by rw [c4]; decide) (by rw [c4]; decide) (by rw [c4] <;> rfl) (by decide) (k4 c4)
          · skip
            by_cases c5 : l1 = 5
            · exact V.tableIn (tgt := 91) (off := 90) dX9_count_1 (by rw [c5]; decide) (by rw [c5]; decide) (by rw [c5] <;> rfl) (by decide) (k5 c5)
            · skip
              by_cases c6 : l1 = 6
              · exact V.tableIn (tgt := 102) (off := 101) dX9_count_1 (by rw [c6]; decide) (by rw [c6]; decide) (by rw [c6] <;> rfl) (by decide) (k6 c6)
              · skip
                by_cases c7 : l1 = 7
                · exact V.tableIn (tgt := 113) (off := 112) dX9_count_1 (by rw [c7]; decide) (by rw [c7]; decide) (by rw [c7] <;> rfl) (by decide) (k7 c7)
                · skip
                  exact V.tableOut (tgt := 121) dX9_count_1 (by have qc0 := lv_neT c0 (a := 0) rfl; have qc1 := lv_neT c1 (a := 1) rfl; have qc2 := lv_neT c2 (a := 2) rfl; have qc3 := lv_neT c3 (a := 3) rfl; have qc4 := lv_neT c4 (a := 4) rfl; have qc5 := lv_neT c5 (a := 5) rfl; have qc6 := lv_neT c6 (a := 6) rfl; have qc7 := lv_neT c7 (a := 7) rfl; omega) (by decide) (kd c0 c1 c2 c3 c4 c5 c6 c7)
theorem bX9_count_48 {d : Nat} {b : Nat × Nat} {bo : Bool} {im : XI} {Q : Option Value → XS → XI → Prop} {l1 : Int32}  (hq : Q (some (.int (im 1 6))) (SC bo) im) : V mX9_count d b 48 [some (.ref 0), some (.int l1)] [] (SC bo) im Q := by
  refine V.aload_n dX9_count_48 rfl rfl ?_
  refine V.getR fX9_12 rfl (by rfl) (by rfl) dX9_count_49 ?_
  refine V.getI fX9_69 rfl (by rfl) dX9_count_52 ?_
  exact V.iret rfl dX9_count_55 hq
theorem bX9_count_56 {d : Nat} {b : Nat × Nat} {bo : Bool} {im : XI} {Q : Option Value → XS → XI → Prop} {l1 : Int32}  (hq : Q (some (.int (im 1 7))) (SC bo) im) : V mX9_count d b 56 [some (.ref 0), some (.int l1)] [] (SC bo) im Q := by
  refine V.aload_n dX9_count_56 rfl rfl ?_
  refine V.getR fX9_12 rfl (by rfl) (by rfl) dX9_count_57 ?_
  refine V.getI fX9_122 rfl (by rfl) dX9_count_60 ?_
  exact V.iret rfl dX9_count_63 hq
theorem bX9_count_64 {d : Nat} {b : Nat × Nat} {bo : Bool} {im : XI} {Q : Option Value → XS → XI → Prop} {l1 : Int32}  (hq : Q (some (.int (im 1 8))) (SC bo) im) : V mX9_count d b 64 [some (.ref 0), some (.int l1)] [] (SC bo) im Q := by
  refine V.aload_n dX9_count_64 rfl rfl ?_
  refine V.getR fX9_12 rfl (by rfl) (by rfl) dX9_count_65 ?_
  refine V.getI fX9_103 rfl (by rfl) dX9_count_68 ?_
  exact V.iret rfl dX9_count_71 hq
theorem bX9_count_72 {d : Nat} {b : Nat × Nat} {bo : Bool} {im : XI} {Q : Option Value → XS → XI → Prop} {l1 : Int32} {P : Int32 → XI → Prop}  (hs : SpI mX2_partsTogether d [.ref 1] (SC bo) im P) (k : ∀ x2 im2, P x2 im2 → V mX9_count (d + 1) b 79 [some (.ref 0), some (.int l1)] [.int x2] (SC bo) im2 Q) : V mX9_count (d + 1) b 72 [some (.ref 0), some (.int l1)] [] (SC bo) im Q := by
  refine V.aload_n dX9_count_72 rfl rfl ?_
  refine V.getR fX9_12 rfl (by rfl) (by rfl) dX9_count_73 ?_
  refine V.cVI rfl vX2_partsTogether lkX9_307 wX2_partsTogether (ci := 2) rfl (by rfl) (As := []) rfl rfl rfl dX9_count_76 hs (fun x2 im2 h2 => ?_)
  exact k x2 im2 h2
theorem bX9_count_79 {d : Nat} {b : Nat × Nat} {bo : Bool} {im : XI} {Q : Option Value → XS → XI → Prop} {l1 : Int32} {s0 : Int32}  (hq : Q (some (.int s0)) (SC bo) im) : V mX9_count d b 79 [some (.ref 0), some (.int l1)] [.int s0] (SC bo) im Q := by
  exact V.iret rfl dX9_count_79 hq
theorem bX9_count_80 {d : Nat} {b : Nat × Nat} {bo : Bool} {im : XI} {Q : Option Value → XS → XI → Prop} {l1 : Int32} {P : Int32 → XI → Prop}  (hs : SpI mX6_size d [.ref 12] (SC bo) im P) (k : ∀ x2 im2, P x2 im2 → V mX9_count (d + 1) b 90 [some (.ref 0), some (.int l1)] [.int x2] (SC bo) im2 Q) : V mX9_count (d + 1) b 80 [some (.ref 0), some (.int l1)] [] (SC bo) im Q := by
  refine V.aload_n dX9_count_80 rfl rfl ?_
  refine V.getR fX9_12 rfl (by rfl) (by rfl) dX9_count_81 ?_
  refine V.getR fX9_18 rfl (by rfl) (by rfl) dX9_count_84 ?_
  refine V.cVI rfl vX6_size lkX9_150 wX6_size (ci := 6) rfl (by rfl) (As := []) rfl rfl rfl dX9_count_87 hs (fun x2 im2 h2 => ?_)
  exact k x2 im2 h2
theorem bX9_count_90 {d : Nat} {b : Nat × Nat} {bo : Bool} {im : XI} {Q : Option Value → XS → XI → Prop} {l1 : Int32} {s0 : Int32}  (hq : Q (some (.int s0)) (SC bo) im) : V mX9_count d b 90 [some (.ref 0), some (.int l1)] [.int s0] (SC bo) im Q := by
  exact V.iret rfl dX9_count_90 hq
theorem bX9_count_91 {d : Nat} {b : Nat × Nat} {bo : Bool} {im : XI} {Q : Option Value → XS → XI → Prop} {l1 : Int32} {P : Int32 → XI → Prop}  (hs : SpI mX6_size d [.ref 14] (SC bo) im P) (k : ∀ x2 im2, P x2 im2 → V mX9_count (d + 1) b 101 [some (.ref 0), some (.int l1)] [.int x2] (SC bo) im2 Q) : V mX9_count (d + 1) b 91 [some (.ref 0), some (.int l1)] [] (SC bo) im Q := by
  refine V.aload_n dX9_count_91 rfl rfl ?_
  refine V.getR fX9_12 rfl (by rfl) (by rfl) dX9_count_92 ?_
  refine V.getR fX9_304 rfl (by rfl) (by rfl) dX9_count_95 ?_
  refine V.cVI rfl vX6_size lkX9_150 wX6_size (ci := 6) rfl (by rfl) (As := []) rfl rfl rfl dX9_count_98 hs (fun x2 im2 h2 => ?_)
  exact k x2 im2 h2
theorem bX9_count_101 {d : Nat} {b : Nat × Nat} {bo : Bool} {im : XI} {Q : Option Value → XS → XI → Prop} {l1 : Int32} {s0 : Int32}  (hq : Q (some (.int s0)) (SC bo) im) : V mX9_count d b 101 [some (.ref 0), some (.int l1)] [.int s0] (SC bo) im Q := by
  exact V.iret rfl dX9_count_101 hq
theorem bX9_count_102 {d : Nat} {b : Nat × Nat} {bo : Bool} {im : XI} {Q : Option Value → XS → XI → Prop} {l1 : Int32} {P : Int32 → XI → Prop}  (hs : SpI mX6_size d [.ref 34] (SC bo) im P) (k : ∀ x2 im2, P x2 im2 → V mX9_count (d + 1) b 112 [some (.ref 0), some (.int l1)] [.int x2] (SC bo) im2 Q) : V mX9_count (d + 1) b 102 [some (.ref 0), some (.int l1)] [] (SC bo) im Q := by
  refine V.aload_n dX9_count_102 rfl rfl ?_
  refine V.getR fX9_41 rfl (by rfl) (by rfl) dX9_count_103 ?_
  refine V.getR fX9_269 rfl (by rfl) (by rfl) dX9_count_106 ?_
  refine V.cVI rfl vX6_size lkX9_150 wX6_size (ci := 6) rfl (by rfl) (As := []) rfl rfl rfl dX9_count_109 hs (fun x2 im2 h2 => ?_)
  exact k x2 im2 h2
theorem bX9_count_112 {d : Nat} {b : Nat × Nat} {bo : Bool} {im : XI} {Q : Option Value → XS → XI → Prop} {l1 : Int32} {s0 : Int32}  (hq : Q (some (.int s0)) (SC bo) im) : V mX9_count d b 112 [some (.ref 0), some (.int l1)] [.int s0] (SC bo) im Q := by
  exact V.iret rfl dX9_count_112 hq
theorem bX9_count_113 {d : Nat} {b : Nat × Nat} {bo : Bool} {im : XI} {Q : Option Value → XS → XI → Prop} {l1 : Int32}  (hq : Q (some (.int (im 1 9))) (SC bo) im) : V mX9_count d b 113 [some (.ref 0), some (.int l1)] [] (SC bo) im Q := by
  refine V.aload_n dX9_count_113 rfl rfl ?_
  refine V.getR fX9_12 rfl (by rfl) (by rfl) dX9_count_114 ?_
  refine V.getI fX9_201 rfl (by rfl) dX9_count_117 ?_
  exact V.iret rfl dX9_count_120 hq
theorem bX9_count_121 {d : Nat} {b : Nat × Nat} {bo : Bool} {im : XI} {Q : Option Value → XS → XI → Prop} {l1 : Int32} {P : Int32 → XI → Prop}  (hs : SpI mX9_fail d [.ref 0, .int (-1000000001 : Int32)] (SC bo) im P) (k : ∀ x2 im2, P x2 im2 → V mX9_count (d + 1) b 127 [some (.ref 0), some (.int l1)] [.int x2] (SC bo) im2 Q) : V mX9_count (d + 1) b 121 [some (.ref 0), some (.int l1)] [] (SC bo) im Q := by
  refine V.aload_n dX9_count_121 rfl rfl ?_
  refine V.ldc kX9_64 dX9_count_122 ?_
  refine V.cVI rfl vX9_fail lkX9_65 wX9_fail (ci := 9) rfl (by rfl) (As := [.int (-1000000001 : Int32)]) rfl rfl rfl dX9_count_124 hs (fun x2 im2 h2 => ?_)
  exact k x2 im2 h2
theorem bX9_count_127 {d : Nat} {b : Nat × Nat} {bo : Bool} {im : XI} {Q : Option Value → XS → XI → Prop} {l1 : Int32} {s0 : Int32}  (hq : Q (some (.int s0)) (SC bo) im) : V mX9_count d b 127 [some (.ref 0), some (.int l1)] [.int s0] (SC bo) im Q := by
  exact V.iret rfl dX9_count_127 hq
theorem bX9_told_0 {d : Nat} {b : Nat × Nat} {bo : Bool} {im : XI} {Q : Option Value → XS → XI → Prop} {l1 : Int32} {P : Int32 → XI → Prop}  (hs : SpI mX9_within d [.int l1, .int (1 : Int32), .int (6 : Int32)] (SC bo) im P) (k : ∀ x2 im2, P x2 im2 → V mX9_told (d + 1) b 7 [some (.ref 0), some (.int l1)] [.int x2] (SC bo) im2 Q) : V mX9_told (d + 1) b 0 [some (.ref 0), some (.int l1)] [] (SC bo) im Q := by
  refine V.iload_n dX9_told_0 rfl rfl ?_
  refine V.iconst (v := 1) dX9_told_1 (by decide) ?_
  refine V.bipush (v := 6) dX9_told_2 (by decide) ?_
  refine V.cSI rfl vX9_within lkX9_93 sX9_within (As := [.int l1, .int (1 : Int32), .int (6 : Int32)]) rfl rfl rfl dX9_told_4 hs (fun x2 im2 h2 => ?_)
  exact k x2 im2 h2
theorem bX9_told_7 {d : Nat} {b : Nat × Nat} {bo : Bool} {im : XI} {Q : Option Value → XS → XI → Prop} {l1 : Int32} {s0 : Int32}  (kt : ¬ s0 = 0 → V mX9_told d b 17 [some (.ref 0), some (.int l1)] [] (SC bo) im Q) (kf : s0 = 0 → V mX9_told d b 10 [some (.ref 0), some (.int l1)] [] (SC bo) im Q) : V mX9_told d b 7 [some (.ref 0), some (.int l1)] [.int s0] (SC bo) im Q := by
  refine V.if_ne (tgt := 17) dX9_told_7 (by decide) (fun h => ?_) (fun h => ?_)
  · exact kt h
  · exact kf h
theorem bX9_told_10 {d : Nat} {b : Nat × Nat} {bo : Bool} {im : XI} {Q : Option Value → XS → XI → Prop} {l1 : Int32} {P : Int32 → XI → Prop}  (hs : SpI mX9_fail d [.ref 0, .int (-1000000001 : Int32)] (SC bo) im P) (k : ∀ x2 im2, P x2 im2 → V mX9_told (d + 1) b 16 [some (.ref 0), some (.int l1)] [.int x2] (SC bo) im2 Q) : V mX9_told (d + 1) b 10 [some (.ref 0), some (.int l1)] [] (SC bo) im Q := by
  refine V.aload_n dX9_told_10 rfl rfl ?_
  refine V.ldc kX9_64 dX9_told_11 ?_
  refine V.cVI rfl vX9_fail lkX9_65 wX9_fail (ci := 9) rfl (by rfl) (As := [.int (-1000000001 : Int32)]) rfl rfl rfl dX9_told_13 hs (fun x2 im2 h2 => ?_)
  exact k x2 im2 h2
theorem bX9_told_16 {d : Nat} {b : Nat × Nat} {bo : Bool} {im : XI} {Q : Option Value → XS → XI → Prop} {l1 : Int32} {s0 : Int32}  (hq : Q (some (.int s0)) (SC bo) im) : V mX9_told d b 16 [some (.ref 0), some (.int l1)] [.int s0] (SC bo) im Q := by
  exact V.iret rfl dX9_told_16 hq
theorem bX9_told_17 {d : Nat} {b : Nat × Nat} {bo : Bool} {im : XI} {Q : Option Value → XS → XI → Prop} {l1 : Int32} {i1 : Nat} (g0 : l1 = nI i1) (g1 : i1 < 7) (hq : Q (some (.int (im 37 i1))) (SC bo) im) : V mX9_told d b 17 [some (.ref 0), some (.int l1)] [] (SC bo) im Q := by
  refine V.aload_n dX9_told_17 rfl rfl ?_
  refine V.getR fX9_51 rfl (by rfl) (by rfl) dX9_told_18 ?_
  refine V.iload_n dX9_told_21 rfl rfl ?_
  refine V.iald (i := i1) ⟨by rfl, by rfl⟩ g0 g1 dX9_told_22 ?_
  exact V.iret rfl dX9_told_23 hq
theorem bX9_fail_0 {d : Nat} {b : Nat × Nat} {bo : Bool} {im : XI} {Q : Option Value → XS → XI → Prop} {l1 : Int32} {P : Int32 → XI → Prop}  (hs : SpI mX9_within d [.int ((-1000000000 : Int32) - l1), .int (1 : Int32), .int (6 : Int32)] (SC bo) im P) (k : ∀ x2 im2, P x2 im2 → V mX9_fail (d + 1) b 13 [some (.ref 0), some (.int l1), some (.int ((-1000000000 : Int32) - l1))] [.int x2] (SC bo) im2 Q) : V mX9_fail (d + 1) b 0 [some (.ref 0), some (.int l1), none] [] (SC bo) im Q := by
  refine V.ldcw kX9_310 dX9_fail_0 ?_
  refine V.iload_n dX9_fail_3 rfl rfl ?_
  refine V.isub dX9_fail_4 ?_
  refine V.istore_n dX9_fail_5 rfl rfl rfl ?_
  refine V.iload_n dX9_fail_6 rfl rfl ?_
  refine V.iconst (v := 1) dX9_fail_7 (by decide) ?_
  refine V.bipush (v := 6) dX9_fail_8 (by decide) ?_
  refine V.cSI rfl vX9_within lkX9_93 sX9_within (As := [.int ((-1000000000 : Int32) - l1), .int (1 : Int32), .int (6 : Int32)]) rfl rfl rfl dX9_fail_10 hs (fun x2 im2 h2 => ?_)
  exact k x2 im2 h2
theorem bX9_fail_13 {d : Nat} {b : Nat × Nat} {bo : Bool} {im : XI} {Q : Option Value → XS → XI → Prop} {l1 : Int32} {l2 : Int32} {s0 : Int32}  (kt : s0 = 0 → V mX9_fail d b 26 [some (.ref 0), some (.int l1), some (.int l2)] [] (SC bo) im Q) (kf : ¬ s0 = 0 → V mX9_fail d b 16 [some (.ref 0), some (.int l1), some (.int l2)] [] (SC bo) im Q) : V mX9_fail d b 13 [some (.ref 0), some (.int l1), some (.int l2)] [.int s0] (SC bo) im Q := by
  refine V.if_eq (tgt := 26) dX9_fail_13 (by decide) (fun h => ?_) (fun h => ?_)
  · exact kt h
  · exact kf h
theorem bX9_fail_16 {d : Nat} {b : Nat × Nat} {bo : Bool} {im : XI} {Q : Option Value → XS → XI → Prop} {l1 : Int32} {l2 : Int32} {i1 : Nat} (g0 : l2 = nI i1) (g1 : i1 < 7) (k : V mX9_fail d b 26 [some (.ref 0), some (.int l1), some (.int l2)] [] (SC bo) (xup im 37 i1 ((im 37 i1) + (1 : Int32))) Q) : V mX9_fail d b 16 [some (.ref 0), some (.int l1), some (.int l2)] [] (SC bo) im Q := by
  refine V.aload_n dX9_fail_16 rfl rfl ?_
  refine V.getR fX9_51 rfl (by rfl) (by rfl) dX9_fail_17 ?_
  refine V.iload_n dX9_fail_20 rfl rfl ?_
  refine V.dup2 dX9_fail_21 rfl rfl ?_
  refine V.iald (i := i1) ⟨by rfl, by rfl⟩ g0 g1 dX9_fail_22 ?_
  refine V.iconst (v := 1) dX9_fail_23 (by decide) ?_
  refine V.iadd dX9_fail_24 ?_
  refine V.iast (i := i1) ⟨by rfl, by rfl⟩ g0 g1 dX9_fail_25 ?_
  exact k
theorem bX9_fail_26 {d : Nat} {b : Nat × Nat} {bo : Bool} {im : XI} {Q : Option Value → XS → XI → Prop} {l1 : Int32} {l2 : Int32}  (hq : Q (some (.int l1)) (SC bo) im) : V mX9_fail d b 26 [some (.ref 0), some (.int l1), some (.int l2)] [] (SC bo) im Q := by
  refine V.iload_n dX9_fail_26 rfl rfl ?_
  exact V.iret rfl dX9_fail_27 hq
theorem bX9_within_0 {d : Nat} {b : Nat × Nat} {S : XS} {im : XI} {Q : Option Value → XS → XI → Prop} {l0 : Int32} {l1 : Int32} {l2 : Int32}  (kt : l0 < l1 → V mX9_within d b 14 [some (.int l0), some (.int l1), some (.int l2)] [] S im Q) (kf : ¬ l0 < l1 → V mX9_within d b 5 [some (.int l0), some (.int l1), some (.int l2)] [] S im Q) : V mX9_within d b 0 [some (.int l0), some (.int l1), some (.int l2)] [] S im Q := by
  refine V.iload_n dX9_within_0 rfl rfl ?_
  refine V.iload_n dX9_within_1 rfl rfl ?_
  refine V.icmp_lt (tgt := 14) dX9_within_2 (by decide) (fun h => ?_) (fun h => ?_)
  · exact kt h
  · exact kf h
theorem bX9_within_5 {d : Nat} {b : Nat × Nat} {S : XS} {im : XI} {Q : Option Value → XS → XI → Prop} {l0 : Int32} {l1 : Int32} {l2 : Int32}  (kt : l2 < l0 → V mX9_within d b 14 [some (.int l0), some (.int l1), some (.int l2)] [] S im Q) (kf : ¬ l2 < l0 → V mX9_within d b 10 [some (.int l0), some (.int l1), some (.int l2)] [] S im Q) : V mX9_within d b 5 [some (.int l0), some (.int l1), some (.int l2)] [] S im Q := by
  refine V.iload_n dX9_within_5 rfl rfl ?_
  refine V.iload_n dX9_within_6 rfl rfl ?_
  refine V.icmp_gt (tgt := 14) dX9_within_7 (by decide) (fun h => ?_) (fun h => ?_)
  · exact kt h
  · exact kf h
theorem bX9_within_10 {d : Nat} {b : Nat × Nat} {S : XS} {im : XI} {Q : Option Value → XS → XI → Prop} {l0 : Int32} {l1 : Int32} {l2 : Int32}  (k : V mX9_within d b 15 [some (.int l0), some (.int l1), some (.int l2)] [.int (1 : Int32)] S im Q) : V mX9_within d b 10 [some (.int l0), some (.int l1), some (.int l2)] [] S im Q := by
  refine V.iconst (v := 1) dX9_within_10 (by decide) ?_
  refine V.goto (tgt := 15) dX9_within_11 (by decide) ?_
  exact k
theorem bX9_within_14 {d : Nat} {b : Nat × Nat} {S : XS} {im : XI} {Q : Option Value → XS → XI → Prop} {l0 : Int32} {l1 : Int32} {l2 : Int32}  (k : V mX9_within d b 15 [some (.int l0), some (.int l1), some (.int l2)] [.int (0 : Int32)] S im Q) : V mX9_within d b 14 [some (.int l0), some (.int l1), some (.int l2)] [] S im Q := by
  refine V.iconst (v := 0) dX9_within_14 (by decide) ?_
  exact k
theorem bX9_within_15 {d : Nat} {b : Nat × Nat} {S : XS} {im : XI} {Q : Option Value → XS → XI → Prop} {l0 : Int32} {l1 : Int32} {l2 : Int32} {s0 : Int32} (g0 : s0 = 0 ∨ s0 = 1) (hq : Q (some (.int s0)) S im) : V mX9_within d b 15 [some (.int l0), some (.int l1), some (.int l2)] [.int s0] S im Q := by
  exact V.zret rfl g0 dX9_within_15 hq
theorem bX9_isKindAndNumber_0 {d : Nat} {b : Nat × Nat} {S : XS} {im : XI} {Q : Option Value → XS → XI → Prop} {l0 : Int32} {P : Int32 → XI → Prop}  (hs : SpI mX9_within d [.int l0, .int (0 : Int32), .int (69 : Int32)] S im P) (k : ∀ x2 im2, P x2 im2 → V mX9_isKindAndNumber (d + 1) b 7 [some (.int l0)] [.int x2] S im2 Q) : V mX9_isKindAndNumber (d + 1) b 0 [some (.int l0)] [] S im Q := by
  refine V.iload_n dX9_isKindAndNumber_0 rfl rfl ?_
  refine V.iconst (v := 0) dX9_isKindAndNumber_1 (by decide) ?_
  refine V.bipush (v := 69) dX9_isKindAndNumber_2 (by decide) ?_
  refine V.cSI rfl vX9_within lkX9_93 sX9_within (As := [.int l0, .int (0 : Int32), .int (69 : Int32)]) rfl rfl rfl dX9_isKindAndNumber_4 hs (fun x2 im2 h2 => ?_)
  exact k x2 im2 h2
theorem bX9_isKindAndNumber_7 {d : Nat} {b : Nat × Nat} {S : XS} {im : XI} {Q : Option Value → XS → XI → Prop} {l0 : Int32} {s0 : Int32} (g0 : s0 = 0 ∨ s0 = 1) (hq : Q (some (.int s0)) S im) : V mX9_isKindAndNumber d b 7 [some (.int l0)] [.int s0] S im Q := by
  exact V.zret rfl g0 dX9_isKindAndNumber_7 hq
theorem bX9_isBeatAndPhase_0 {d : Nat} {b : Nat × Nat} {S : XS} {im : XI} {Q : Option Value → XS → XI → Prop} {l0 : Int32} {l1 : Int32} {P : Int32 → XI → Prop}  (hs : SpI mX9_within d [.int l0, .int (1 : Int32), .int (12 : Int32)] S im P) (k : ∀ x2 im2, P x2 im2 → V mX9_isBeatAndPhase (d + 1) b 7 [some (.int l0), some (.int l1)] [.int x2] S im2 Q) : V mX9_isBeatAndPhase (d + 1) b 0 [some (.int l0), some (.int l1)] [] S im Q := by
  refine V.iload_n dX9_isBeatAndPhase_0 rfl rfl ?_
  refine V.iconst (v := 1) dX9_isBeatAndPhase_1 (by decide) ?_
  refine V.bipush (v := 12) dX9_isBeatAndPhase_2 (by decide) ?_
  refine V.cSI rfl vX9_within lkX9_93 sX9_within (As := [.int l0, .int (1 : Int32), .int (12 : Int32)]) rfl rfl rfl dX9_isBeatAndPhase_4 hs (fun x2 im2 h2 => ?_)
  exact k x2 im2 h2
theorem bX9_isBeatAndPhase_7 {d : Nat} {b : Nat × Nat} {S : XS} {im : XI} {Q : Option Value → XS → XI → Prop} {l0 : Int32} {l1 : Int32} {s0 : Int32}  (kt : s0 = 0 → V mX9_isBeatAndPhase d b 25 [some (.int l0), some (.int l1)] [] S im Q) (kf : ¬ s0 = 0 → V mX9_isBeatAndPhase d b 10 [some (.int l0), some (.int l1)] [] S im Q) : V mX9_isBeatAndPhase d b 7 [some (.int l0), some (.int l1)] [.int s0] S im Q := by
  refine V.if_eq (tgt := 25) dX9_isBeatAndPhase_7 (by decide) (fun h => ?_) (fun h => ?_)
  · exact kt h
  · exact kf h
theorem bX9_isBeatAndPhase_10 {d : Nat} {b : Nat × Nat} {S : XS} {im : XI} {Q : Option Value → XS → XI → Prop} {l0 : Int32} {l1 : Int32} {P : Int32 → XI → Prop}  (hs : SpI mX9_within d [.int l1, .int (0 : Int32), .int (l0 - (1 : Int32))] S im P) (k : ∀ x2 im2, P x2 im2 → V mX9_isBeatAndPhase (d + 1) b 18 [some (.int l0), some (.int l1)] [.int x2] S im2 Q) : V mX9_isBeatAndPhase (d + 1) b 10 [some (.int l0), some (.int l1)] [] S im Q := by
  refine V.iload_n dX9_isBeatAndPhase_10 rfl rfl ?_
  refine V.iconst (v := 0) dX9_isBeatAndPhase_11 (by decide) ?_
  refine V.iload_n dX9_isBeatAndPhase_12 rfl rfl ?_
  refine V.iconst (v := 1) dX9_isBeatAndPhase_13 (by decide) ?_
  refine V.isub dX9_isBeatAndPhase_14 ?_
  refine V.cSI rfl vX9_within lkX9_93 sX9_within (As := [.int l1, .int (0 : Int32), .int (l0 - (1 : Int32))]) rfl rfl rfl dX9_isBeatAndPhase_15 hs (fun x2 im2 h2 => ?_)
  exact k x2 im2 h2
theorem bX9_isBeatAndPhase_18 {d : Nat} {b : Nat × Nat} {S : XS} {im : XI} {Q : Option Value → XS → XI → Prop} {l0 : Int32} {l1 : Int32} {s0 : Int32}  (kt : s0 = 0 → V mX9_isBeatAndPhase d b 25 [some (.int l0), some (.int l1)] [] S im Q) (kf : ¬ s0 = 0 → V mX9_isBeatAndPhase d b 21 [some (.int l0), some (.int l1)] [] S im Q) : V mX9_isBeatAndPhase d b 18 [some (.int l0), some (.int l1)] [.int s0] S im Q := by
  refine V.if_eq (tgt := 25) dX9_isBeatAndPhase_18 (by decide) (fun h => ?_) (fun h => ?_)
  · exact kt h
  · exact kf h
theorem bX9_isBeatAndPhase_21 {d : Nat} {b : Nat × Nat} {S : XS} {im : XI} {Q : Option Value → XS → XI → Prop} {l0 : Int32} {l1 : Int32}  (k : V mX9_isBeatAndPhase d b 26 [some (.int l0), some (.int l1)] [.int (1 : Int32)] S im Q) : V mX9_isBeatAndPhase d b 21 [some (.int l0), some (.int l1)] [] S im Q := by
  refine V.iconst (v := 1) dX9_isBeatAndPhase_21 (by decide) ?_
  refine V.goto (tgt := 26) dX9_isBeatAndPhase_22 (by decide) ?_
  exact k
theorem bX9_isBeatAndPhase_25 {d : Nat} {b : Nat × Nat} {S : XS} {im : XI} {Q : Option Value → XS → XI → Prop} {l0 : Int32} {l1 : Int32}  (k : V mX9_isBeatAndPhase d b 26 [some (.int l0), some (.int l1)] [.int (0 : Int32)] S im Q) : V mX9_isBeatAndPhase d b 25 [some (.int l0), some (.int l1)] [] S im Q := by
  refine V.iconst (v := 0) dX9_isBeatAndPhase_25 (by decide) ?_
  exact k
theorem bX9_isBeatAndPhase_26 {d : Nat} {b : Nat × Nat} {S : XS} {im : XI} {Q : Option Value → XS → XI → Prop} {l0 : Int32} {l1 : Int32} {s0 : Int32} (g0 : s0 = 0 ∨ s0 = 1) (hq : Q (some (.int s0)) S im) : V mX9_isBeatAndPhase d b 26 [some (.int l0), some (.int l1)] [.int s0] S im Q := by
  exact V.zret rfl g0 dX9_isBeatAndPhase_26 hq
theorem bX9_isParts_0 {d : Nat} {b : Nat × Nat} {S : XS} {im : XI} {Q : Option Value → XS → XI → Prop} {l0 : Int32} {P : Int32 → XI → Prop}  (hs : SpI mX9_within d [.int l0, .int (0 : Int32), .int (99 : Int32)] S im P) (k : ∀ x2 im2, P x2 im2 → V mX9_isParts (d + 1) b 7 [some (.int l0)] [.int x2] S im2 Q) : V mX9_isParts (d + 1) b 0 [some (.int l0)] [] S im Q := by
  refine V.iload_n dX9_isParts_0 rfl rfl ?_
  refine V.iconst (v := 0) dX9_isParts_1 (by decide) ?_
  refine V.bipush (v := 99) dX9_isParts_2 (by decide) ?_
  refine V.cSI rfl vX9_within lkX9_93 sX9_within (As := [.int l0, .int (0 : Int32), .int (99 : Int32)]) rfl rfl rfl dX9_isParts_4 hs (fun x2 im2 h2 => ?_)
  exact k x2 im2 h2
theorem bX9_isParts_7 {d : Nat} {b : Nat × Nat} {S : XS} {im : XI} {Q : Option Value → XS → XI → Prop} {l0 : Int32} {s0 : Int32} (g0 : s0 = 0 ∨ s0 = 1) (hq : Q (some (.int s0)) S im) : V mX9_isParts d b 7 [some (.int l0)] [.int s0] S im Q := by
  exact V.zret rfl g0 dX9_isParts_7 hq
theorem bX9_isUse_0 {d : Nat} {b : Nat × Nat} {S : XS} {im : XI} {Q : Option Value → XS → XI → Prop} {l0 : Int32}  (kt : l0 = 0 → V mX9_isUse d b 9 [some (.int l0)] [] S im Q) (kf : ¬ l0 = 0 → V mX9_isUse d b 4 [some (.int l0)] [] S im Q) : V mX9_isUse d b 0 [some (.int l0)] [] S im Q := by
  refine V.iload_n dX9_isUse_0 rfl rfl ?_
  refine V.if_eq (tgt := 9) dX9_isUse_1 (by decide) (fun h => ?_) (fun h => ?_)
  · exact kt h
  · exact kf h
theorem bX9_isUse_4 {d : Nat} {b : Nat × Nat} {S : XS} {im : XI} {Q : Option Value → XS → XI → Prop} {l0 : Int32}  (kt : ¬ l0 = (1 : Int32) → V mX9_isUse d b 13 [some (.int l0)] [] S im Q) (kf : l0 = (1 : Int32) → V mX9_isUse d b 9 [some (.int l0)] [] S im Q) : V mX9_isUse d b 4 [some (.int l0)] [] S im Q := by
  refine V.iload_n dX9_isUse_4 rfl rfl ?_
  refine V.iconst (v := 1) dX9_isUse_5 (by decide) ?_
  refine V.icmp_ne (tgt := 13) dX9_isUse_6 (by decide) (fun h => ?_) (fun h => ?_)
  · exact kt h
  · exact kf h
theorem bX9_isUse_9 {d : Nat} {b : Nat × Nat} {S : XS} {im : XI} {Q : Option Value → XS → XI → Prop} {l0 : Int32}  (k : V mX9_isUse d b 14 [some (.int l0)] [.int (1 : Int32)] S im Q) : V mX9_isUse d b 9 [some (.int l0)] [] S im Q := by
  refine V.iconst (v := 1) dX9_isUse_9 (by decide) ?_
  refine V.goto (tgt := 14) dX9_isUse_10 (by decide) ?_
  exact k
theorem bX9_isUse_13 {d : Nat} {b : Nat × Nat} {S : XS} {im : XI} {Q : Option Value → XS → XI → Prop} {l0 : Int32}  (k : V mX9_isUse d b 14 [some (.int l0)] [.int (0 : Int32)] S im Q) : V mX9_isUse d b 13 [some (.int l0)] [] S im Q := by
  refine V.iconst (v := 0) dX9_isUse_13 (by decide) ?_
  exact k
theorem bX9_isUse_14 {d : Nat} {b : Nat × Nat} {S : XS} {im : XI} {Q : Option Value → XS → XI → Prop} {l0 : Int32} {s0 : Int32} (g0 : s0 = 0 ∨ s0 = 1) (hq : Q (some (.int s0)) S im) : V mX9_isUse d b 14 [some (.int l0)] [.int s0] S im Q := by
  exact V.zret rfl g0 dX9_isUse_14 hq
theorem bX9_isSheet_0 {d : Nat} {b : Nat × Nat} {S : XS} {im : XI} {Q : Option Value → XS → XI → Prop} {l0 : Int32} {P : Int32 → XI → Prop}  (hs : SpI mX9_within d [.int l0, .int (0 : Int32), .int (3 : Int32)] S im P) (k : ∀ x2 im2, P x2 im2 → V mX9_isSheet (d + 1) b 6 [some (.int l0)] [.int x2] S im2 Q) : V mX9_isSheet (d + 1) b 0 [some (.int l0)] [] S im Q := by
  refine V.iload_n dX9_isSheet_0 rfl rfl ?_
  refine V.iconst (v := 0) dX9_isSheet_1 (by decide) ?_
  refine V.iconst (v := 3) dX9_isSheet_2 (by decide) ?_
  refine V.cSI rfl vX9_within lkX9_93 sX9_within (As := [.int l0, .int (0 : Int32), .int (3 : Int32)]) rfl rfl rfl dX9_isSheet_3 hs (fun x2 im2 h2 => ?_)
  exact k x2 im2 h2
theorem bX9_isSheet_6 {d : Nat} {b : Nat × Nat} {S : XS} {im : XI} {Q : Option Value → XS → XI → Prop} {l0 : Int32} {s0 : Int32} (g0 : s0 = 0 ∨ s0 = 1) (hq : Q (some (.int s0)) S im) : V mX9_isSheet d b 6 [some (.int l0)] [.int s0] S im Q := by
  exact V.zret rfl g0 dX9_isSheet_6 hq
theorem bX9_holds_0 {d : Nat} {b : Nat × Nat} {S : XS} {im : XI} {Q : Option Value → XS → XI → Prop} {l0 : Int32} {l1 : Int32}  (kt : ¬ ((l0 >>> (l1 &&& 31)) &&& (1 : Int32)) = (1 : Int32) → V mX9_holds d b 13 [some (.int l0), some (.int l1)] [] S im Q) (kf : ((l0 >>> (l1 &&& 31)) &&& (1 : Int32)) = (1 : Int32) → V mX9_holds d b 9 [some (.int l0), some (.int l1)] [] S im Q) : V mX9_holds d b 0 [some (.int l0), some (.int l1)] [] S im Q := by
  refine V.iload_n dX9_holds_0 rfl rfl ?_
  refine V.iload_n dX9_holds_1 rfl rfl ?_
  refine V.ishr dX9_holds_2 ?_
  refine V.iconst (v := 1) dX9_holds_3 (by decide) ?_
  refine V.iand dX9_holds_4 ?_
  refine V.iconst (v := 1) dX9_holds_5 (by decide) ?_
  refine V.icmp_ne (tgt := 13) dX9_holds_6 (by decide) (fun h => ?_) (fun h => ?_)
  · exact kt h
  · exact kf h
theorem bX9_holds_9 {d : Nat} {b : Nat × Nat} {S : XS} {im : XI} {Q : Option Value → XS → XI → Prop} {l0 : Int32} {l1 : Int32}  (k : V mX9_holds d b 14 [some (.int l0), some (.int l1)] [.int (1 : Int32)] S im Q) : V mX9_holds d b 9 [some (.int l0), some (.int l1)] [] S im Q := by
  refine V.iconst (v := 1) dX9_holds_9 (by decide) ?_
  refine V.goto (tgt := 14) dX9_holds_10 (by decide) ?_
  exact k
theorem bX9_holds_13 {d : Nat} {b : Nat × Nat} {S : XS} {im : XI} {Q : Option Value → XS → XI → Prop} {l0 : Int32} {l1 : Int32}  (k : V mX9_holds d b 14 [some (.int l0), some (.int l1)] [.int (0 : Int32)] S im Q) : V mX9_holds d b 13 [some (.int l0), some (.int l1)] [] S im Q := by
  refine V.iconst (v := 0) dX9_holds_13 (by decide) ?_
  exact k
theorem bX9_holds_14 {d : Nat} {b : Nat × Nat} {S : XS} {im : XI} {Q : Option Value → XS → XI → Prop} {l0 : Int32} {l1 : Int32} {s0 : Int32} (g0 : s0 = 0 ∨ s0 = 1) (hq : Q (some (.int s0)) S im) : V mX9_holds d b 14 [some (.int l0), some (.int l1)] [.int s0] S im Q := by
  exact V.zret rfl g0 dX9_holds_14 hq
theorem bX9_isUnder_0 {d : Nat} {b : Nat × Nat} {S : XS} {im : XI} {Q : Option Value → XS → XI → Prop} {l0 : Int32} {l1 : Int32}  (k : V mX9_isUnder d b 4 [some (.int l0), some (.int l1), some (.int l0), some (.int (0 : Int32))] [] S im Q) : V mX9_isUnder d b 0 [some (.int l0), some (.int l1), none, none] [] S im Q := by
  refine V.iload_n dX9_isUnder_0 rfl rfl ?_
  refine V.istore_n dX9_isUnder_1 rfl rfl rfl ?_
  refine V.iconst (v := 0) dX9_isUnder_2 (by decide) ?_
  refine V.istore_n dX9_isUnder_3 rfl rfl rfl ?_
  exact k
theorem bX9_isUnder_4 {d : Nat} {b : Nat × Nat} {S : XS} {im : XI} {Q : Option Value → XS → XI → Prop} {l0 : Int32} {l1 : Int32} {l2 : Int32} {l3 : Int32}  (kt : (7 : Int32) ≤ l3 → V mX9_isUnder d b 37 [some (.int l0), some (.int l1), some (.int l2), some (.int l3)] [] S im Q) (kf : ¬ (7 : Int32) ≤ l3 → V mX9_isUnder d b 10 [some (.int l0), some (.int l1), some (.int l2), some (.int l3)] [] S im Q) : V mX9_isUnder d b 4 [some (.int l0), some (.int l1), some (.int l2), some (.int l3)] [] S im Q := by
  refine V.iload_n dX9_isUnder_4 rfl rfl ?_
  refine V.bipush (v := 7) dX9_isUnder_5 (by decide) ?_
  refine V.icmp_ge (tgt := 37) dX9_isUnder_7 (by decide) (fun h => ?_) (fun h => ?_)
  · exact kt h
  · exact kf h
theorem bX9_isUnder_10 {d : Nat} {b : Nat × Nat} {S : XS} {im : XI} {Q : Option Value → XS → XI → Prop} {l0 : Int32} {l1 : Int32} {l2 : Int32} {l3 : Int32}  (kt : l2 = l1 → V mX9_isUnder d b 37 [some (.int l0), some (.int l1), some (.int l2), some (.int l3)] [] S im Q) (kf : ¬ l2 = l1 → V mX9_isUnder d b 15 [some (.int l0), some (.int l1), some (.int l2), some (.int l3)] [] S im Q) : V mX9_isUnder d b 10 [some (.int l0), some (.int l1), some (.int l2), some (.int l3)] [] S im Q := by
  refine V.iload_n dX9_isUnder_10 rfl rfl ?_
  refine V.iload_n dX9_isUnder_11 rfl rfl ?_
  refine V.icmp_eq (tgt := 37) dX9_isUnder_12 (by decide) (fun h => ?_) (fun h => ?_)
  · exact kt h
  · exact kf h
theorem bX9_isUnder_15 {d : Nat} {b : Nat × Nat} {S : XS} {im : XI} {Q : Option Value → XS → XI → Prop} {l0 : Int32} {l1 : Int32} {l2 : Int32} {l3 : Int32} {P : Int32 → XI → Prop}  (hs : SpI mX9_within d [.int l2, .int (0 : Int32), .int (6 : Int32)] S im P) (k : ∀ x2 im2, P x2 im2 → V mX9_isUnder (d + 1) b 22 [some (.int l0), some (.int l1), some (.int l2), some (.int l3)] [.int x2] S im2 Q) : V mX9_isUnder (d + 1) b 15 [some (.int l0), some (.int l1), some (.int l2), some (.int l3)] [] S im Q := by
  refine V.iload_n dX9_isUnder_15 rfl rfl ?_
  refine V.iconst (v := 0) dX9_isUnder_16 (by decide) ?_
  refine V.bipush (v := 6) dX9_isUnder_17 (by decide) ?_
  refine V.cSI rfl vX9_within lkX9_93 sX9_within (As := [.int l2, .int (0 : Int32), .int (6 : Int32)]) rfl rfl rfl dX9_isUnder_19 hs (fun x2 im2 h2 => ?_)
  exact k x2 im2 h2
theorem bX9_isUnder_22 {d : Nat} {b : Nat × Nat} {S : XS} {im : XI} {Q : Option Value → XS → XI → Prop} {l0 : Int32} {l1 : Int32} {l2 : Int32} {l3 : Int32} {s0 : Int32}  (kt : s0 = 0 → V mX9_isUnder d b 37 [some (.int l0), some (.int l1), some (.int l2), some (.int l3)] [] S im Q) (kf : ¬ s0 = 0 → V mX9_isUnder d b 25 [some (.int l0), some (.int l1), some (.int l2), some (.int l3)] [] S im Q) : V mX9_isUnder d b 22 [some (.int l0), some (.int l1), some (.int l2), some (.int l3)] [.int s0] S im Q := by
  refine V.if_eq (tgt := 37) dX9_isUnder_22 (by decide) (fun h => ?_) (fun h => ?_)
  · exact kt h
  · exact kf h
theorem bX9_isUnder_25 {d : Nat} {b : Nat × Nat} {S : XS} {im : XI} {Q : Option Value → XS → XI → Prop} {l0 : Int32} {l1 : Int32} {l2 : Int32} {l3 : Int32} {i1 : Nat} (g0 : l2 = nI i1) (g1 : i1 < 7) (k : V mX9_isUnder d b 4 [some (.int l0), some (.int l1), some (.int (kab i1)), some (.int (l3 + (1 : Int32)))] [] S im Q) : V mX9_isUnder d b 25 [some (.int l0), some (.int l1), some (.int l2), some (.int l3)] [] S im Q := by
  refine V.kabove xkab dX9_isUnder_25 ?_
  refine V.iload_n dX9_isUnder_28 rfl rfl ?_
  refine V.kald (i := i1) g0 g1 dX9_isUnder_29 ?_
  refine V.istore_n dX9_isUnder_30 rfl rfl rfl ?_
  refine V.iinc (v := (l3 + (1 : Int32))) dX9_isUnder_31 rfl rfl rfl ?_
  refine V.goto (tgt := 4) dX9_isUnder_34 (by decide) ?_
  exact k
theorem bX9_isUnder_37 {d : Nat} {b : Nat × Nat} {S : XS} {im : XI} {Q : Option Value → XS → XI → Prop} {l0 : Int32} {l1 : Int32} {l2 : Int32} {l3 : Int32}  (kt : ¬ l2 = l1 → V mX9_isUnder d b 46 [some (.int l0), some (.int l1), some (.int l2), some (.int l3)] [] S im Q) (kf : l2 = l1 → V mX9_isUnder d b 42 [some (.int l0), some (.int l1), some (.int l2), some (.int l3)] [] S im Q) : V mX9_isUnder d b 37 [some (.int l0), some (.int l1), some (.int l2), some (.int l3)] [] S im Q := by
  refine V.iload_n dX9_isUnder_37 rfl rfl ?_
  refine V.iload_n dX9_isUnder_38 rfl rfl ?_
  refine V.icmp_ne (tgt := 46) dX9_isUnder_39 (by decide) (fun h => ?_) (fun h => ?_)
  · exact kt h
  · exact kf h
theorem bX9_isUnder_42 {d : Nat} {b : Nat × Nat} {S : XS} {im : XI} {Q : Option Value → XS → XI → Prop} {l0 : Int32} {l1 : Int32} {l2 : Int32} {l3 : Int32}  (k : V mX9_isUnder d b 47 [some (.int l0), some (.int l1), some (.int l2), some (.int l3)] [.int (1 : Int32)] S im Q) : V mX9_isUnder d b 42 [some (.int l0), some (.int l1), some (.int l2), some (.int l3)] [] S im Q := by
  refine V.iconst (v := 1) dX9_isUnder_42 (by decide) ?_
  refine V.goto (tgt := 47) dX9_isUnder_43 (by decide) ?_
  exact k
theorem bX9_isUnder_46 {d : Nat} {b : Nat × Nat} {S : XS} {im : XI} {Q : Option Value → XS → XI → Prop} {l0 : Int32} {l1 : Int32} {l2 : Int32} {l3 : Int32}  (k : V mX9_isUnder d b 47 [some (.int l0), some (.int l1), some (.int l2), some (.int l3)] [.int (0 : Int32)] S im Q) : V mX9_isUnder d b 46 [some (.int l0), some (.int l1), some (.int l2), some (.int l3)] [] S im Q := by
  refine V.iconst (v := 0) dX9_isUnder_46 (by decide) ?_
  exact k
theorem bX9_isUnder_47 {d : Nat} {b : Nat × Nat} {S : XS} {im : XI} {Q : Option Value → XS → XI → Prop} {l0 : Int32} {l1 : Int32} {l2 : Int32} {l3 : Int32} {s0 : Int32} (g0 : s0 = 0 ∨ s0 = 1) (hq : Q (some (.int s0)) S im) : V mX9_isUnder d b 47 [some (.int l0), some (.int l1), some (.int l2), some (.int l3)] [.int s0] S im Q := by
  exact V.zret rfl g0 dX9_isUnder_47 hq
theorem bX9_rest_0 {d : Nat} {b : Nat × Nat} {S : XS} {im : XI} {Q : Option Value → XS → XI → Prop} {l0 : Int32} {l1 : Int32} {l2 : Int32}  (kt : l1 ≤ 0 → V mX9_rest d b 12 [some (.int l0), some (.int l1), some (.int l2)] [] S im Q) (kf : ¬ l1 ≤ 0 → V mX9_rest d b 4 [some (.int l0), some (.int l1), some (.int l2)] [] S im Q) : V mX9_rest d b 0 [some (.int l0), some (.int l1), some (.int l2)] [] S im Q := by
  refine V.iload_n dX9_rest_0 rfl rfl ?_
  refine V.if_le (tgt := 12) dX9_rest_1 (by decide) (fun h => ?_) (fun h => ?_)
  · exact kt h
  · exact kf h
theorem bX9_rest_4 {d : Nat} {b : Nat × Nat} {S : XS} {im : XI} {Q : Option Value → XS → XI → Prop} {l0 : Int32} {l1 : Int32} {l2 : Int32} (g0 : ¬ l1 = 0) (k : V mX9_rest d b 13 [some (.int l0), some (.int l1), some (.int l2)] [.int ((l0 + l2) - (l0 + l2) / l1 * l1)] S im Q) : V mX9_rest d b 4 [some (.int l0), some (.int l1), some (.int l2)] [] S im Q := by
  refine V.iload_n dX9_rest_4 rfl rfl ?_
  refine V.iload_n dX9_rest_5 rfl rfl ?_
  refine V.iadd dX9_rest_6 ?_
  refine V.iload_n dX9_rest_7 rfl rfl ?_
  refine V.irem dX9_rest_8 g0 ?_
  refine V.goto (tgt := 13) dX9_rest_9 (by decide) ?_
  exact k
theorem bX9_rest_12 {d : Nat} {b : Nat × Nat} {S : XS} {im : XI} {Q : Option Value → XS → XI → Prop} {l0 : Int32} {l1 : Int32} {l2 : Int32}  (k : V mX9_rest d b 13 [some (.int l0), some (.int l1), some (.int l2)] [.int (0 : Int32)] S im Q) : V mX9_rest d b 12 [some (.int l0), some (.int l1), some (.int l2)] [] S im Q := by
  refine V.iconst (v := 0) dX9_rest_12 (by decide) ?_
  exact k
theorem bX9_rest_13 {d : Nat} {b : Nat × Nat} {S : XS} {im : XI} {Q : Option Value → XS → XI → Prop} {l0 : Int32} {l1 : Int32} {l2 : Int32} {s0 : Int32}  (hq : Q (some (.int s0)) S im) : V mX9_rest d b 13 [some (.int l0), some (.int l1), some (.int l2)] [.int s0] S im Q := by
  exact V.iret rfl dX9_rest_13 hq
theorem bX9_commonDivisor_0 {d : Nat} {b : Nat × Nat} {S : XS} {im : XI} {Q : Option Value → XS → XI → Prop} {l0 : Int32} {l1 : Int32}  (k : V mX9_commonDivisor d b 7 [some (.int l0), some (.int l1), some (.int l0), some (.int l1), some (.int (0 : Int32)), none] [] S im Q) : V mX9_commonDivisor d b 0 [some (.int l0), some (.int l1), none, none, none, none] [] S im Q := by
  refine V.iload_n dX9_commonDivisor_0 rfl rfl ?_
  refine V.istore_n dX9_commonDivisor_1 rfl rfl rfl ?_
  refine V.iload_n dX9_commonDivisor_2 rfl rfl ?_
  refine V.istore_n dX9_commonDivisor_3 rfl rfl rfl ?_
  refine V.iconst (v := 0) dX9_commonDivisor_4 (by decide) ?_
  refine V.istore dX9_commonDivisor_5 rfl rfl ?_
  exact k
theorem bX9_commonDivisor_7 {d : Nat} {b : Nat × Nat} {S : XS} {im : XI} {Q : Option Value → XS → XI → Prop} {l0 : Int32} {l1 : Int32} {l2 : Int32} {l3 : Int32} {l4 : Int32}  (kt : (99 : Int32) ≤ l4 → V mX9_commonDivisor d b 34 [some (.int l0), some (.int l1), some (.int l2), some (.int l3), some (.int l4), none] [] S im Q) (kf : ¬ (99 : Int32) ≤ l4 → V mX9_commonDivisor d b 14 [some (.int l0), some (.int l1), some (.int l2), some (.int l3), some (.int l4), none] [] S im Q) : V mX9_commonDivisor d b 7 [some (.int l0), some (.int l1), some (.int l2), some (.int l3), some (.int l4), none] [] S im Q := by
  refine V.iload dX9_commonDivisor_7 rfl ?_
  refine V.bipush (v := 99) dX9_commonDivisor_9 (by decide) ?_
  refine V.icmp_ge (tgt := 34) dX9_commonDivisor_11 (by decide) (fun h => ?_) (fun h => ?_)
  · exact kt h
  · exact kf h
theorem bX9_commonDivisor_14 {d : Nat} {b : Nat × Nat} {S : XS} {im : XI} {Q : Option Value → XS → XI → Prop} {l0 : Int32} {l1 : Int32} {l2 : Int32} {l3 : Int32} {l4 : Int32}  (kt : l3 ≤ 0 → V mX9_commonDivisor d b 34 [some (.int l0), some (.int l1), some (.int l2), some (.int l3), some (.int l4), none] [] S im Q) (kf : ¬ l3 ≤ 0 → V mX9_commonDivisor d b 18 [some (.int l0), some (.int l1), some (.int l2), some (.int l3), some (.int l4), none] [] S im Q) : V mX9_commonDivisor d b 14 [some (.int l0), some (.int l1), some (.int l2), some (.int l3), some (.int l4), none] [] S im Q := by
  refine V.iload_n dX9_commonDivisor_14 rfl rfl ?_
  refine V.if_le (tgt := 34) dX9_commonDivisor_15 (by decide) (fun h => ?_) (fun h => ?_)
  · exact kt h
  · exact kf h
theorem bX9_commonDivisor_18 {d : Nat} {b : Nat × Nat} {S : XS} {im : XI} {Q : Option Value → XS → XI → Prop} {l0 : Int32} {l1 : Int32} {l2 : Int32} {l3 : Int32} {l4 : Int32} (g0 : ¬ l3 = 0) (k : V mX9_commonDivisor d b 7 [some (.int l0), some (.int l1), some (.int l3), some (.int (l2 - l2 / l3 * l3)), some (.int (l4 + (1 : Int32))), none] [] S im Q) : V mX9_commonDivisor d b 18 [some (.int l0), some (.int l1), some (.int l2), some (.int l3), some (.int l4), none] [] S im Q := by
  refine V.iload_n dX9_commonDivisor_18 rfl rfl ?_
  refine V.iload_n dX9_commonDivisor_19 rfl rfl ?_
  refine V.irem dX9_commonDivisor_20 g0 ?_
  refine V.istore dX9_commonDivisor_21 rfl rfl ?_
  refine V.iload_n dX9_commonDivisor_23 rfl rfl ?_
  refine V.istore_n dX9_commonDivisor_24 rfl rfl rfl ?_
  refine V.iload dX9_commonDivisor_25 rfl ?_
  refine V.istore_n dX9_commonDivisor_27 rfl rfl rfl ?_
  refine V.iinc (v := (l4 + (1 : Int32))) dX9_commonDivisor_28 rfl rfl rfl ?_
  refine V.goto (tgt := 7) dX9_commonDivisor_31 (by decide) ?_
  exact V.weakm [true, true, true, true, true, false] rfl (k)
theorem bX9_commonDivisor_34 {d : Nat} {b : Nat × Nat} {S : XS} {im : XI} {Q : Option Value → XS → XI → Prop} {l0 : Int32} {l1 : Int32} {l2 : Int32} {l3 : Int32} {l4 : Int32}  (hq : Q (some (.int l2)) S im) : V mX9_commonDivisor d b 34 [some (.int l0), some (.int l1), some (.int l2), some (.int l3), some (.int l4), none] [] S im Q := by
  refine V.iload_n dX9_commonDivisor_34 rfl rfl ?_
  exact V.iret rfl dX9_commonDivisor_35 hq

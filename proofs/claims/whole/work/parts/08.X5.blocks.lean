theorem bX5_init_0 {d : Nat} {b : Nat × Nat} {S : XS} {im : XI} {Q : Option Value → XS → XI → Prop} {l0 : Nat} {l1 : Nat}  (k : V mX5_init (d + 1) b 4 [some (.ref l0), some (.ref l1)] [] S im Q) : V mX5_init (d + 1) b 0 [some (.ref l0), some (.ref l1)] [] S im Q := by
  refine V.aload_n dX5_init_0 rfl rfl ?_
  refine V.objInit rfl lkX5_3 xoi_in xoi_code rfl dX5_init_1 ?_
  exact k
theorem bX5_init_4 {d : Nat} {b : Nat × Nat} {S : XS} {im : XI} {Q : Option Value → XS → XI → Prop} {l0 : Nat} {l1 : Nat} {b1 : Nat × Nat} {P : XS → XI → Prop} {bc be : Nat × Nat} (g0 : 1 + b1.1 ≤ b.1 ∧ 2 + b1.2 ≤ b.2) (hs : SpC mX6_init d bc [.ref S.1.length, .int (60 : Int32)] (xpush S (.inl 6)) (xz im S.1.length) P) (hbud : bc.1 + be.1 ≤ b1.1 ∧ bc.2 + be.2 ≤ b1.2) (hP : ∀ S2 im2, P S2 im2 → S2.1.length = ((xpush S (.inl 6))).1.length + bc.1) (k : ∀ S2 im2, P S2 im2 → V mX5_init (d + 1) be 14 [some (.ref l0), some (.ref l1)] [.ref S.1.length, .ref l0] S2 im2 Q) : V mX5_init (d + 1) b 4 [some (.ref l0), some (.ref l1)] [] S im Q := by
  refine V.aload_n dX5_init_4 rfl rfl ?_
  refine V.new (ci := 6) rfl nwX5_9.1 nwX5_9.2.1 nwX5_9.2.2 g0 dX5_init_5 ?_
  refine V.dup dX5_init_8 rfl ?_
  refine V.bipush (v := 60) dX5_init_9 (by decide) ?_
  refine V.cC rfl vX6_init lkX5_11 wX6_init rfl rfl (As := [.int (60 : Int32)]) rfl rfl rfl dX5_init_11 hs hbud hP (fun S2 im2 h2 => ?_)
  exact k S2 im2 h2
theorem bX5_init_14 {d : Nat} {b : Nat × Nat} {S : XS} {im : XI} {Q : Option Value → XS → XI → Prop} {l0 : Nat} {l1 : Nat} {s0 : Nat} {s1 : Nat} (g0 : S.1[s0]? = some (.inl 5)) (k : V mX5_init d b 17 [some (.ref l0), some (.ref l1)] [] (S.1, xur S.2 s0 1 (some s1)) im Q) : V mX5_init d b 14 [some (.ref l0), some (.ref l1)] [.ref s1, .ref s0] S im Q := by
  refine V.putR fX5_14 (fun _ => ⟨rfl, TX5, 4, rfl⟩) rfl rfl g0 dX5_init_14 ?_
  exact k
theorem bX5_init_17 {d : Nat} {b : Nat × Nat} {S : XS} {im : XI} {Q : Option Value → XS → XI → Prop} {l0 : Nat} {l1 : Nat} (g0 : S.1[l0]? = some (.inl 5)) (k : V mX5_init d b 22 [some (.ref l0), some (.ref l1)] [] (S.1, xur S.2 l0 0 (some l1)) im Q) : V mX5_init d b 17 [some (.ref l0), some (.ref l1)] [] S im Q := by
  refine V.aload_n dX5_init_17 rfl rfl ?_
  refine V.aload_n dX5_init_18 rfl rfl ?_
  refine V.putR fX5_20 (fun _ => ⟨rfl, TX5, 4, rfl⟩) rfl rfl g0 dX5_init_19 ?_
  exact k
theorem bX5_init_22 {d : Nat} {b : Nat × Nat} {S : XS} {im : XI} {Q : Option Value → XS → XI → Prop} {l0 : Nat} {l1 : Nat}  (hq : Q none S im) : V mX5_init d b 22 [some (.ref l0), some (.ref l1)] [] S im Q := by
  exact V.vret rfl dX5_init_22 hq
theorem bX5_reads_0 {d : Nat} {b : Nat × Nat} {bo : Bool} {im : XI} {Q : Option Value → XS → XI → Prop} {l1 : Int32} {P : XI → Prop}  (hs : SpV mX6_clear d [.ref 29] (SC bo) (xup (xup im 28 2 l1) 28 3 (0 : Int32)) P) (k : ∀ im2, P im2 → V mX5_reads (d + 1) b 17 [some (.ref 28), some (.int l1)] [] (SC bo) im2 Q) : V mX5_reads (d + 1) b 0 [some (.ref 28), some (.int l1)] [] (SC bo) im Q := by
  refine V.aload_n dX5_reads_0 rfl rfl ?_
  refine V.iload_n dX5_reads_1 rfl rfl ?_
  refine V.putI fX5_23 (fun h => by cases h) rfl (by rfl) dX5_reads_2 ?_
  refine V.aload_n dX5_reads_5 rfl rfl ?_
  refine V.iconst (v := 0) dX5_reads_6 (by decide) ?_
  refine V.putI fX5_27 (fun h => by cases h) rfl (by rfl) dX5_reads_7 ?_
  refine V.aload_n dX5_reads_10 rfl rfl ?_
  refine V.getR fX5_14 rfl (by rfl) (by rfl) dX5_reads_11 ?_
  refine V.cVV rfl vX6_clear lkX5_30 wX6_clear (ci := 6) rfl (by rfl) (As := []) rfl rfl rfl dX5_reads_14 hs (fun im2 h2 => ?_)
  exact k im2 h2
theorem bX5_reads_17 {d : Nat} {b : Nat × Nat} {bo : Bool} {im : XI} {Q : Option Value → XS → XI → Prop} {l1 : Int32} {P : Int32 → XI → Prop}  (hs : SpI mX5_readsAny d [.ref 28, .int (0 : Int32)] (SC bo) im P) (k : ∀ x2 im2, P x2 im2 → V mX5_reads (d + 1) b 22 [some (.ref 28), some (.int l1)] [.int x2] (SC bo) im2 Q) : V mX5_reads (d + 1) b 17 [some (.ref 28), some (.int l1)] [] (SC bo) im Q := by
  refine V.aload_n dX5_reads_17 rfl rfl ?_
  refine V.iconst (v := 0) dX5_reads_18 (by decide) ?_
  refine V.cVI rfl vX5_readsAny lkX5_33 wX5_readsAny (ci := 5) rfl (by rfl) (As := [.int (0 : Int32)]) rfl rfl rfl dX5_reads_19 hs (fun x2 im2 h2 => ?_)
  exact k x2 im2 h2
theorem bX5_reads_22 {d : Nat} {b : Nat × Nat} {bo : Bool} {im : XI} {Q : Option Value → XS → XI → Prop} {l1 : Int32} {s0 : Int32}  (kt : s0 = 0 → V mX5_reads d b 43 [some (.ref 28), some (.int l1)] [] (SC bo) im Q) (kf : ¬ s0 = 0 → V mX5_reads d b 25 [some (.ref 28), some (.int l1)] [] (SC bo) im Q) : V mX5_reads d b 22 [some (.ref 28), some (.int l1)] [.int s0] (SC bo) im Q := by
  refine V.if_eq (tgt := 43) dX5_reads_22 (by decide) (fun h => ?_) (fun h => ?_)
  · exact kt h
  · exact kf h
theorem bX5_reads_25 {d : Nat} {b : Nat × Nat} {bo : Bool} {im : XI} {Q : Option Value → XS → XI → Prop} {l1 : Int32} {P : Int32 → XI → Prop}  (hs : SpI mX6_size d [.ref 12] (SC bo) im P) (k : ∀ x2 im2, P x2 im2 → V mX5_reads (d + 1) b 36 [some (.ref 28), some (.int l1)] [.int x2, .int (im 28 3)] (SC bo) im2 Q) : V mX5_reads (d + 1) b 25 [some (.ref 28), some (.int l1)] [] (SC bo) im Q := by
  refine V.aload_n dX5_reads_25 rfl rfl ?_
  refine V.getI fX5_27 rfl (by rfl) dX5_reads_26 ?_
  refine V.aload_n dX5_reads_29 rfl rfl ?_
  refine V.getR fX5_20 rfl (by rfl) (by rfl) dX5_reads_30 ?_
  refine V.cVI rfl vX6_size lkX5_37 wX6_size (ci := 6) rfl (by rfl) (As := []) rfl rfl rfl dX5_reads_33 hs (fun x2 im2 h2 => ?_)
  exact k x2 im2 h2
theorem bX5_reads_36 {d : Nat} {b : Nat × Nat} {bo : Bool} {im : XI} {Q : Option Value → XS → XI → Prop} {l1 : Int32} {s0 : Int32} {s1 : Int32}  (kt : ¬ s0 = s1 → V mX5_reads d b 43 [some (.ref 28), some (.int l1)] [] (SC bo) im Q) (kf : s0 = s1 → V mX5_reads d b 39 [some (.ref 28), some (.int l1)] [] (SC bo) im Q) : V mX5_reads d b 36 [some (.ref 28), some (.int l1)] [.int s1, .int s0] (SC bo) im Q := by
  refine V.icmp_ne (tgt := 43) dX5_reads_36 (by decide) (fun h => ?_) (fun h => ?_)
  · exact kt h
  · exact kf h
theorem bX5_reads_39 {d : Nat} {b : Nat × Nat} {bo : Bool} {im : XI} {Q : Option Value → XS → XI → Prop} {l1 : Int32}  (k : V mX5_reads d b 44 [some (.ref 28), some (.int l1)] [.int (1 : Int32)] (SC bo) im Q) : V mX5_reads d b 39 [some (.ref 28), some (.int l1)] [] (SC bo) im Q := by
  refine V.iconst (v := 1) dX5_reads_39 (by decide) ?_
  refine V.goto (tgt := 44) dX5_reads_40 (by decide) ?_
  exact k
theorem bX5_reads_43 {d : Nat} {b : Nat × Nat} {bo : Bool} {im : XI} {Q : Option Value → XS → XI → Prop} {l1 : Int32}  (k : V mX5_reads d b 44 [some (.ref 28), some (.int l1)] [.int (0 : Int32)] (SC bo) im Q) : V mX5_reads d b 43 [some (.ref 28), some (.int l1)] [] (SC bo) im Q := by
  refine V.iconst (v := 0) dX5_reads_43 (by decide) ?_
  exact k
theorem bX5_reads_44 {d : Nat} {b : Nat × Nat} {bo : Bool} {im : XI} {Q : Option Value → XS → XI → Prop} {l1 : Int32} {s0 : Int32} (g0 : s0 = 0 ∨ s0 = 1) (hq : Q (some (.int s0)) (SC bo) im) : V mX5_reads d b 44 [some (.ref 28), some (.int l1)] [.int s0] (SC bo) im Q := by
  exact V.zret rfl g0 dX5_reads_44 hq
theorem bX5_fault_0 {d : Nat} {b : Nat × Nat} {bo : Bool} {im : XI} {Q : Option Value → XS → XI → Prop}   (hq : Q (some (.int (im 28 3))) (SC bo) im) : V mX5_fault d b 0 [some (.ref 28)] [] (SC bo) im Q := by
  refine V.aload_n dX5_fault_0 rfl rfl ?_
  refine V.getI fX5_27 rfl (by rfl) dX5_fault_1 ?_
  exact V.iret rfl dX5_fault_4 hq
theorem bX5_next_0 {d : Nat} {b : Nat × Nat} {bo : Bool} {im : XI} {Q : Option Value → XS → XI → Prop} {P : Int32 → XI → Prop}  (hs : SpI mX6_size d [.ref 12] (SC bo) im P) (k : ∀ x2 im2, P x2 im2 → V mX5_next (d + 1) b 11 [some (.ref 28)] [.int x2, .int (im 28 3)] (SC bo) im2 Q) : V mX5_next (d + 1) b 0 [some (.ref 28)] [] (SC bo) im Q := by
  refine V.aload_n dX5_next_0 rfl rfl ?_
  refine V.getI fX5_27 rfl (by rfl) dX5_next_1 ?_
  refine V.aload_n dX5_next_4 rfl rfl ?_
  refine V.getR fX5_20 rfl (by rfl) (by rfl) dX5_next_5 ?_
  refine V.cVI rfl vX6_size lkX5_37 wX6_size (ci := 6) rfl (by rfl) (As := []) rfl rfl rfl dX5_next_8 hs (fun x2 im2 h2 => ?_)
  exact k x2 im2 h2
theorem bX5_next_11 {d : Nat} {b : Nat × Nat} {bo : Bool} {im : XI} {Q : Option Value → XS → XI → Prop} {s0 : Int32} {s1 : Int32}  (kt : s1 ≤ s0 → V mX5_next d b 28 [some (.ref 28)] [] (SC bo) im Q) (kf : ¬ s1 ≤ s0 → V mX5_next d b 14 [some (.ref 28)] [] (SC bo) im Q) : V mX5_next d b 11 [some (.ref 28)] [.int s1, .int s0] (SC bo) im Q := by
  refine V.icmp_ge (tgt := 28) dX5_next_11 (by decide) (fun h => ?_) (fun h => ?_)
  · exact kt h
  · exact kf h
theorem bX5_next_14 {d : Nat} {b : Nat × Nat} {bo : Bool} {im : XI} {Q : Option Value → XS → XI → Prop} {P : Int32 → XI → Prop}  (hs : SpI mX6_at d [.ref 12, .int (im 28 3)] (SC bo) im P) (k : ∀ x2 im2, P x2 im2 → V mX5_next (d + 1) b 25 [some (.ref 28)] [.int x2] (SC bo) im2 Q) : V mX5_next (d + 1) b 14 [some (.ref 28)] [] (SC bo) im Q := by
  refine V.aload_n dX5_next_14 rfl rfl ?_
  refine V.getR fX5_20 rfl (by rfl) (by rfl) dX5_next_15 ?_
  refine V.aload_n dX5_next_18 rfl rfl ?_
  refine V.getI fX5_27 rfl (by rfl) dX5_next_19 ?_
  refine V.cVI rfl vX6_at lkX5_41 wX6_at (ci := 6) rfl (by rfl) (As := [.int (im 28 3)]) rfl rfl rfl dX5_next_22 hs (fun x2 im2 h2 => ?_)
  exact k x2 im2 h2
theorem bX5_next_25 {d : Nat} {b : Nat × Nat} {bo : Bool} {im : XI} {Q : Option Value → XS → XI → Prop} {s0 : Int32}  (k : V mX5_next d b 29 [some (.ref 28)] [.int s0] (SC bo) im Q) : V mX5_next d b 25 [some (.ref 28)] [.int s0] (SC bo) im Q := by
  refine V.goto (tgt := 29) dX5_next_25 (by decide) ?_
  exact k
theorem bX5_next_28 {d : Nat} {b : Nat × Nat} {bo : Bool} {im : XI} {Q : Option Value → XS → XI → Prop}   (k : V mX5_next d b 29 [some (.ref 28)] [.int (-1 : Int32)] (SC bo) im Q) : V mX5_next d b 28 [some (.ref 28)] [] (SC bo) im Q := by
  refine V.iconst (v := -1) dX5_next_28 (by decide) ?_
  exact k
theorem bX5_next_29 {d : Nat} {b : Nat × Nat} {bo : Bool} {im : XI} {Q : Option Value → XS → XI → Prop} {s0 : Int32}  (hq : Q (some (.int s0)) (SC bo) im) : V mX5_next d b 29 [some (.ref 28)] [.int s0] (SC bo) im Q := by
  exact V.iret rfl dX5_next_29 hq
theorem bX5_takes_0 {d : Nat} {b : Nat × Nat} {bo : Bool} {im : XI} {Q : Option Value → XS → XI → Prop} {l1 : Int32} {P : Int32 → XI → Prop}  (hs : SpI mX5_next d [.ref 28] (SC bo) im P) (k : ∀ x2 im2, P x2 im2 → V mX5_takes (d + 1) b 4 [some (.ref 28), some (.int l1)] [.int x2] (SC bo) im2 Q) : V mX5_takes (d + 1) b 0 [some (.ref 28), some (.int l1)] [] (SC bo) im Q := by
  refine V.aload_n dX5_takes_0 rfl rfl ?_
  refine V.cVI rfl vX5_next lkX5_45 wX5_next (ci := 5) rfl (by rfl) (As := []) rfl rfl rfl dX5_takes_1 hs (fun x2 im2 h2 => ?_)
  exact k x2 im2 h2
theorem bX5_takes_4 {d : Nat} {b : Nat × Nat} {bo : Bool} {im : XI} {Q : Option Value → XS → XI → Prop} {l1 : Int32} {s0 : Int32}  (kt : s0 = l1 → V mX5_takes d b 10 [some (.ref 28), some (.int l1)] [] (SC bo) im Q) (kf : ¬ s0 = l1 → V mX5_takes d b 8 [some (.ref 28), some (.int l1)] [] (SC bo) im Q) : V mX5_takes d b 4 [some (.ref 28), some (.int l1)] [.int s0] (SC bo) im Q := by
  refine V.iload_n dX5_takes_4 rfl rfl ?_
  refine V.icmp_eq (tgt := 10) dX5_takes_5 (by decide) (fun h => ?_) (fun h => ?_)
  · exact kt h
  · exact kf h
theorem bX5_takes_8 {d : Nat} {b : Nat × Nat} {bo : Bool} {im : XI} {Q : Option Value → XS → XI → Prop} {l1 : Int32}  (hq : Q (some (.int (0 : Int32))) (SC bo) im) : V mX5_takes d b 8 [some (.ref 28), some (.int l1)] [] (SC bo) im Q := by
  refine V.iconst (v := 0) dX5_takes_8 (by decide) ?_
  exact V.zret rfl (by decide) dX5_takes_9 hq
theorem bX5_takes_10 {d : Nat} {b : Nat × Nat} {bo : Bool} {im : XI} {Q : Option Value → XS → XI → Prop} {l1 : Int32}  (hq : Q (some (.int (1 : Int32))) (SC bo) (xup im 28 3 ((im 28 3) + (1 : Int32)))) : V mX5_takes d b 10 [some (.ref 28), some (.int l1)] [] (SC bo) im Q := by
  refine V.aload_n dX5_takes_10 rfl rfl ?_
  refine V.dup dX5_takes_11 rfl ?_
  refine V.getI fX5_27 rfl (by rfl) dX5_takes_12 ?_
  refine V.iconst (v := 1) dX5_takes_15 (by decide) ?_
  refine V.iadd dX5_takes_16 ?_
  refine V.putI fX5_27 (fun h => by cases h) rfl (by rfl) dX5_takes_17 ?_
  refine V.iconst (v := 1) dX5_takes_20 (by decide) ?_
  exact V.zret rfl (by decide) dX5_takes_21 hq
theorem bX5_readsAny_0 {d : Nat} {b : Nat × Nat} {bo : Bool} {im : XI} {Q : Option Value → XS → XI → Prop} {l1 : Int32} {P : Int32 → XI → Prop}  (hs : SpI mX5_readsAll d [.ref 28, .int l1] (SC bo) im P) (k : ∀ x2 im2, P x2 im2 → V mX5_readsAny (d + 1) b 5 [some (.ref 28), some (.int l1), none, none] [.int x2] (SC bo) im2 Q) : V mX5_readsAny (d + 1) b 0 [some (.ref 28), some (.int l1), none, none] [] (SC bo) im Q := by
  refine V.aload_n dX5_readsAny_0 rfl rfl ?_
  refine V.iload_n dX5_readsAny_1 rfl rfl ?_
  refine V.cVI rfl vX5_readsAll lkX5_48 wX5_readsAll (ci := 5) rfl (by rfl) (As := [.int l1]) rfl rfl rfl dX5_readsAny_2 hs (fun x2 im2 h2 => ?_)
  exact k x2 im2 h2
theorem bX5_readsAny_5 {d : Nat} {b : Nat × Nat} {bo : Bool} {im : XI} {Q : Option Value → XS → XI → Prop} {l1 : Int32} {s0 : Int32}  (k : V mX5_readsAny d b 8 [some (.ref 28), some (.int l1), some (.int s0), some (.int (0 : Int32))] [] (SC bo) im Q) : V mX5_readsAny d b 5 [some (.ref 28), some (.int l1), none, none] [.int s0] (SC bo) im Q := by
  refine V.istore_n dX5_readsAny_5 rfl rfl rfl ?_
  refine V.iconst (v := 0) dX5_readsAny_6 (by decide) ?_
  refine V.istore_n dX5_readsAny_7 rfl rfl rfl ?_
  exact k
theorem bX5_readsAny_8 {d : Nat} {b : Nat × Nat} {bo : Bool} {im : XI} {Q : Option Value → XS → XI → Prop} {l1 : Int32} {l2 : Int32} {l3 : Int32}  (kt : (60 : Int32) ≤ l3 → V mX5_readsAny d b 49 [some (.ref 28), some (.int l1), some (.int l2), some (.int l3)] [] (SC bo) im Q) (kf : ¬ (60 : Int32) ≤ l3 → V mX5_readsAny d b 14 [some (.ref 28), some (.int l1), some (.int l2), some (.int l3)] [] (SC bo) im Q) : V mX5_readsAny d b 8 [some (.ref 28), some (.int l1), some (.int l2), some (.int l3)] [] (SC bo) im Q := by
  refine V.iload_n dX5_readsAny_8 rfl rfl ?_
  refine V.bipush (v := 60) dX5_readsAny_9 (by decide) ?_
  refine V.icmp_ge (tgt := 49) dX5_readsAny_11 (by decide) (fun h => ?_) (fun h => ?_)
  · exact kt h
  · exact kf h
theorem bX5_readsAny_14 {d : Nat} {b : Nat × Nat} {bo : Bool} {im : XI} {Q : Option Value → XS → XI → Prop} {l1 : Int32} {l2 : Int32} {l3 : Int32}  (kt : l2 = 0 → V mX5_readsAny d b 49 [some (.ref 28), some (.int l1), some (.int l2), some (.int l3)] [] (SC bo) im Q) (kf : ¬ l2 = 0 → V mX5_readsAny d b 18 [some (.ref 28), some (.int l1), some (.int l2), some (.int l3)] [] (SC bo) im Q) : V mX5_readsAny d b 14 [some (.ref 28), some (.int l1), some (.int l2), some (.int l3)] [] (SC bo) im Q := by
  refine V.iload_n dX5_readsAny_14 rfl rfl ?_
  refine V.if_eq (tgt := 49) dX5_readsAny_15 (by decide) (fun h => ?_) (fun h => ?_)
  · exact kt h
  · exact kf h
theorem bX5_readsAny_18 {d : Nat} {b : Nat × Nat} {bo : Bool} {im : XI} {Q : Option Value → XS → XI → Prop} {l1 : Int32} {l2 : Int32} {l3 : Int32} {P : Int32 → XI → Prop}  (hs : SpI mX5_takes d [.ref 28, .int (124 : Int32)] (SC bo) im P) (k : ∀ x2 im2, P x2 im2 → V mX5_readsAny (d + 1) b 24 [some (.ref 28), some (.int l1), some (.int l2), some (.int l3)] [.int x2] (SC bo) im2 Q) : V mX5_readsAny (d + 1) b 18 [some (.ref 28), some (.int l1), some (.int l2), some (.int l3)] [] (SC bo) im Q := by
  refine V.aload_n dX5_readsAny_18 rfl rfl ?_
  refine V.bipush (v := 124) dX5_readsAny_19 (by decide) ?_
  refine V.cVI rfl vX5_takes lkX5_51 wX5_takes (ci := 5) rfl (by rfl) (As := [.int (124 : Int32)]) rfl rfl rfl dX5_readsAny_21 hs (fun x2 im2 h2 => ?_)
  exact k x2 im2 h2
theorem bX5_readsAny_24 {d : Nat} {b : Nat × Nat} {bo : Bool} {im : XI} {Q : Option Value → XS → XI → Prop} {l1 : Int32} {l2 : Int32} {l3 : Int32} {s0 : Int32}  (kt : s0 = 0 → V mX5_readsAny d b 49 [some (.ref 28), some (.int l1), some (.int l2), some (.int l3)] [] (SC bo) im Q) (kf : ¬ s0 = 0 → V mX5_readsAny d b 27 [some (.ref 28), some (.int l1), some (.int l2), some (.int l3)] [] (SC bo) im Q) : V mX5_readsAny d b 24 [some (.ref 28), some (.int l1), some (.int l2), some (.int l3)] [.int s0] (SC bo) im Q := by
  refine V.if_eq (tgt := 49) dX5_readsAny_24 (by decide) (fun h => ?_) (fun h => ?_)
  · exact kt h
  · exact kf h
theorem bX5_readsAny_27 {d : Nat} {b : Nat × Nat} {bo : Bool} {im : XI} {Q : Option Value → XS → XI → Prop} {l1 : Int32} {l2 : Int32} {l3 : Int32} {P : Int32 → XI → Prop}  (hs : SpI mX5_readsAll d [.ref 28, .int l1] (SC bo) im P) (k : ∀ x2 im2, P x2 im2 → V mX5_readsAny (d + 1) b 32 [some (.ref 28), some (.int l1), some (.int l2), some (.int l3)] [.int x2] (SC bo) im2 Q) : V mX5_readsAny (d + 1) b 27 [some (.ref 28), some (.int l1), some (.int l2), some (.int l3)] [] (SC bo) im Q := by
  refine V.aload_n dX5_readsAny_27 rfl rfl ?_
  refine V.iload_n dX5_readsAny_28 rfl rfl ?_
  refine V.cVI rfl vX5_readsAll lkX5_48 wX5_readsAll (ci := 5) rfl (by rfl) (As := [.int l1]) rfl rfl rfl dX5_readsAny_29 hs (fun x2 im2 h2 => ?_)
  exact k x2 im2 h2
theorem bX5_readsAny_32 {d : Nat} {b : Nat × Nat} {bo : Bool} {im : XI} {Q : Option Value → XS → XI → Prop} {l1 : Int32} {l2 : Int32} {l3 : Int32} {s0 : Int32} {P : Int32 → XI → Prop}  (hs : SpI mX6_add d [.ref 29, .int (-124 : Int32)] (SC bo) im P) (k : ∀ x2 im2, P x2 im2 → V mX5_readsAny (d + 1) b 42 [some (.ref 28), some (.int l1), some (.int s0), some (.int l3)] [.int x2] (SC bo) im2 Q) : V mX5_readsAny (d + 1) b 32 [some (.ref 28), some (.int l1), some (.int l2), some (.int l3)] [.int s0] (SC bo) im Q := by
  refine V.istore_n dX5_readsAny_32 rfl rfl rfl ?_
  refine V.aload_n dX5_readsAny_33 rfl rfl ?_
  refine V.getR fX5_14 rfl (by rfl) (by rfl) dX5_readsAny_34 ?_
  refine V.bipush (v := -124) dX5_readsAny_37 (by decide) ?_
  refine V.cVI rfl vX6_add lkX5_54 wX6_add (ci := 6) rfl (by rfl) (As := [.int (-124 : Int32)]) rfl rfl rfl dX5_readsAny_39 hs (fun x2 im2 h2 => ?_)
  exact k x2 im2 h2
theorem bX5_readsAny_42 {d : Nat} {b : Nat × Nat} {bo : Bool} {im : XI} {Q : Option Value → XS → XI → Prop} {l1 : Int32} {l2 : Int32} {l3 : Int32} {s0 : Int32}  (k : V mX5_readsAny d b 8 [some (.ref 28), some (.int l1), some (.int l2), some (.int (l3 + (1 : Int32)))] [] (SC bo) im Q) : V mX5_readsAny d b 42 [some (.ref 28), some (.int l1), some (.int l2), some (.int l3)] [.int s0] (SC bo) im Q := by
  refine V.pop dX5_readsAny_42 rfl ?_
  refine V.iinc (v := (l3 + (1 : Int32))) dX5_readsAny_43 rfl rfl rfl ?_
  refine V.goto (tgt := 8) dX5_readsAny_46 (by decide) ?_
  exact k
theorem bX5_readsAny_49 {d : Nat} {b : Nat × Nat} {bo : Bool} {im : XI} {Q : Option Value → XS → XI → Prop} {l1 : Int32} {l2 : Int32} {l3 : Int32} (g0 : l2 = 0 ∨ l2 = 1) (hq : Q (some (.int l2)) (SC bo) im) : V mX5_readsAny d b 49 [some (.ref 28), some (.int l1), some (.int l2), some (.int l3)] [] (SC bo) im Q := by
  refine V.iload_n dX5_readsAny_49 rfl rfl ?_
  exact V.zret rfl g0 dX5_readsAny_50 hq
theorem bX5_readsAll_0 {d : Nat} {b : Nat × Nat} {bo : Bool} {im : XI} {Q : Option Value → XS → XI → Prop} {l1 : Int32} {P : Int32 → XI → Prop}  (hs : SpI mX5_readsComparison d [.ref 28, .int l1] (SC bo) im P) (k : ∀ x2 im2, P x2 im2 → V mX5_readsAll (d + 1) b 5 [some (.ref 28), some (.int l1), none, none] [.int x2] (SC bo) im2 Q) : V mX5_readsAll (d + 1) b 0 [some (.ref 28), some (.int l1), none, none] [] (SC bo) im Q := by
  refine V.aload_n dX5_readsAll_0 rfl rfl ?_
  refine V.iload_n dX5_readsAll_1 rfl rfl ?_
  refine V.cVI rfl vX5_readsComparison lkX5_57 wX5_readsComparison (ci := 5) rfl (by rfl) (As := [.int l1]) rfl rfl rfl dX5_readsAll_2 hs (fun x2 im2 h2 => ?_)
  exact k x2 im2 h2
theorem bX5_readsAll_5 {d : Nat} {b : Nat × Nat} {bo : Bool} {im : XI} {Q : Option Value → XS → XI → Prop} {l1 : Int32} {s0 : Int32}  (k : V mX5_readsAll d b 8 [some (.ref 28), some (.int l1), some (.int s0), some (.int (0 : Int32))] [] (SC bo) im Q) : V mX5_readsAll d b 5 [some (.ref 28), some (.int l1), none, none] [.int s0] (SC bo) im Q := by
  refine V.istore_n dX5_readsAll_5 rfl rfl rfl ?_
  refine V.iconst (v := 0) dX5_readsAll_6 (by decide) ?_
  refine V.istore_n dX5_readsAll_7 rfl rfl rfl ?_
  exact k
theorem bX5_readsAll_8 {d : Nat} {b : Nat × Nat} {bo : Bool} {im : XI} {Q : Option Value → XS → XI → Prop} {l1 : Int32} {l2 : Int32} {l3 : Int32}  (kt : (60 : Int32) ≤ l3 → V mX5_readsAll d b 49 [some (.ref 28), some (.int l1), some (.int l2), some (.int l3)] [] (SC bo) im Q) (kf : ¬ (60 : Int32) ≤ l3 → V mX5_readsAll d b 14 [some (.ref 28), some (.int l1), some (.int l2), some (.int l3)] [] (SC bo) im Q) : V mX5_readsAll d b 8 [some (.ref 28), some (.int l1), some (.int l2), some (.int l3)] [] (SC bo) im Q := by
  refine V.iload_n dX5_readsAll_8 rfl rfl ?_
  refine V.bipush (v := 60) dX5_readsAll_9 (by decide) ?_
  refine V.icmp_ge (tgt := 49) dX5_readsAll_11 (by decide) (fun h => ?_) (fun h => ?_)
  · exact kt h
  · exact kf h
theorem bX5_readsAll_14 {d : Nat} {b : Nat × Nat} {bo : Bool} {im : XI} {Q : Option Value → XS → XI → Prop} {l1 : Int32} {l2 : Int32} {l3 : Int32}  (kt : l2 = 0 → V mX5_readsAll d b 49 [some (.ref 28), some (.int l1), some (.int l2), some (.int l3)] [] (SC bo) im Q) (kf : ¬ l2 = 0 → V mX5_readsAll d b 18 [some (.ref 28), some (.int l1), some (.int l2), some (.int l3)] [] (SC bo) im Q) : V mX5_readsAll d b 14 [some (.ref 28), some (.int l1), some (.int l2), some (.int l3)] [] (SC bo) im Q := by
  refine V.iload_n dX5_readsAll_14 rfl rfl ?_
  refine V.if_eq (tgt := 49) dX5_readsAll_15 (by decide) (fun h => ?_) (fun h => ?_)
  · exact kt h
  · exact kf h
theorem bX5_readsAll_18 {d : Nat} {b : Nat × Nat} {bo : Bool} {im : XI} {Q : Option Value → XS → XI → Prop} {l1 : Int32} {l2 : Int32} {l3 : Int32} {P : Int32 → XI → Prop}  (hs : SpI mX5_takes d [.ref 28, .int (38 : Int32)] (SC bo) im P) (k : ∀ x2 im2, P x2 im2 → V mX5_readsAll (d + 1) b 24 [some (.ref 28), some (.int l1), some (.int l2), some (.int l3)] [.int x2] (SC bo) im2 Q) : V mX5_readsAll (d + 1) b 18 [some (.ref 28), some (.int l1), some (.int l2), some (.int l3)] [] (SC bo) im Q := by
  refine V.aload_n dX5_readsAll_18 rfl rfl ?_
  refine V.bipush (v := 38) dX5_readsAll_19 (by decide) ?_
  refine V.cVI rfl vX5_takes lkX5_51 wX5_takes (ci := 5) rfl (by rfl) (As := [.int (38 : Int32)]) rfl rfl rfl dX5_readsAll_21 hs (fun x2 im2 h2 => ?_)
  exact k x2 im2 h2
theorem bX5_readsAll_24 {d : Nat} {b : Nat × Nat} {bo : Bool} {im : XI} {Q : Option Value → XS → XI → Prop} {l1 : Int32} {l2 : Int32} {l3 : Int32} {s0 : Int32}  (kt : s0 = 0 → V mX5_readsAll d b 49 [some (.ref 28), some (.int l1), some (.int l2), some (.int l3)] [] (SC bo) im Q) (kf : ¬ s0 = 0 → V mX5_readsAll d b 27 [some (.ref 28), some (.int l1), some (.int l2), some (.int l3)] [] (SC bo) im Q) : V mX5_readsAll d b 24 [some (.ref 28), some (.int l1), some (.int l2), some (.int l3)] [.int s0] (SC bo) im Q := by
  refine V.if_eq (tgt := 49) dX5_readsAll_24 (by decide) (fun h => ?_) (fun h => ?_)
  · exact kt h
  · exact kf h
theorem bX5_readsAll_27 {d : Nat} {b : Nat × Nat} {bo : Bool} {im : XI} {Q : Option Value → XS → XI → Prop} {l1 : Int32} {l2 : Int32} {l3 : Int32} {P : Int32 → XI → Prop}  (hs : SpI mX5_readsComparison d [.ref 28, .int l1] (SC bo) im P) (k : ∀ x2 im2, P x2 im2 → V mX5_readsAll (d + 1) b 32 [some (.ref 28), some (.int l1), some (.int l2), some (.int l3)] [.int x2] (SC bo) im2 Q) : V mX5_readsAll (d + 1) b 27 [some (.ref 28), some (.int l1), some (.int l2), some (.int l3)] [] (SC bo) im Q := by
  refine V.aload_n dX5_readsAll_27 rfl rfl ?_
  refine V.iload_n dX5_readsAll_28 rfl rfl ?_
  refine V.cVI rfl vX5_readsComparison lkX5_57 wX5_readsComparison (ci := 5) rfl (by rfl) (As := [.int l1]) rfl rfl rfl dX5_readsAll_29 hs (fun x2 im2 h2 => ?_)
  exact k x2 im2 h2
theorem bX5_readsAll_32 {d : Nat} {b : Nat × Nat} {bo : Bool} {im : XI} {Q : Option Value → XS → XI → Prop} {l1 : Int32} {l2 : Int32} {l3 : Int32} {s0 : Int32} {P : Int32 → XI → Prop}  (hs : SpI mX6_add d [.ref 29, .int (-38 : Int32)] (SC bo) im P) (k : ∀ x2 im2, P x2 im2 → V mX5_readsAll (d + 1) b 42 [some (.ref 28), some (.int l1), some (.int s0), some (.int l3)] [.int x2] (SC bo) im2 Q) : V mX5_readsAll (d + 1) b 32 [some (.ref 28), some (.int l1), some (.int l2), some (.int l3)] [.int s0] (SC bo) im Q := by
  refine V.istore_n dX5_readsAll_32 rfl rfl rfl ?_
  refine V.aload_n dX5_readsAll_33 rfl rfl ?_
  refine V.getR fX5_14 rfl (by rfl) (by rfl) dX5_readsAll_34 ?_
  refine V.bipush (v := -38) dX5_readsAll_37 (by decide) ?_
  refine V.cVI rfl vX6_add lkX5_54 wX6_add (ci := 6) rfl (by rfl) (As := [.int (-38 : Int32)]) rfl rfl rfl dX5_readsAll_39 hs (fun x2 im2 h2 => ?_)
  exact k x2 im2 h2
theorem bX5_readsAll_42 {d : Nat} {b : Nat × Nat} {bo : Bool} {im : XI} {Q : Option Value → XS → XI → Prop} {l1 : Int32} {l2 : Int32} {l3 : Int32} {s0 : Int32}  (k : V mX5_readsAll d b 8 [some (.ref 28), some (.int l1), some (.int l2), some (.int (l3 + (1 : Int32)))] [] (SC bo) im Q) : V mX5_readsAll d b 42 [some (.ref 28), some (.int l1), some (.int l2), some (.int l3)] [.int s0] (SC bo) im Q := by
  refine V.pop dX5_readsAll_42 rfl ?_
  refine V.iinc (v := (l3 + (1 : Int32))) dX5_readsAll_43 rfl rfl rfl ?_
  refine V.goto (tgt := 8) dX5_readsAll_46 (by decide) ?_
  exact k
theorem bX5_readsAll_49 {d : Nat} {b : Nat × Nat} {bo : Bool} {im : XI} {Q : Option Value → XS → XI → Prop} {l1 : Int32} {l2 : Int32} {l3 : Int32} (g0 : l2 = 0 ∨ l2 = 1) (hq : Q (some (.int l2)) (SC bo) im) : V mX5_readsAll d b 49 [some (.ref 28), some (.int l1), some (.int l2), some (.int l3)] [] (SC bo) im Q := by
  refine V.iload_n dX5_readsAll_49 rfl rfl ?_
  exact V.zret rfl g0 dX5_readsAll_50 hq
theorem bX5_readsComparison_0 {d : Nat} {b : Nat × Nat} {bo : Bool} {im : XI} {Q : Option Value → XS → XI → Prop} {l1 : Int32} {P : Int32 → XI → Prop}  (hs : SpI mX5_readsSum d [.ref 28, .int l1] (SC bo) im P) (k : ∀ x2 im2, P x2 im2 → V mX5_readsComparison (d + 1) b 5 [some (.ref 28), some (.int l1), none] [.int x2] (SC bo) im2 Q) : V mX5_readsComparison (d + 1) b 0 [some (.ref 28), some (.int l1), none] [] (SC bo) im Q := by
  refine V.aload_n dX5_readsComparison_0 rfl rfl ?_
  refine V.iload_n dX5_readsComparison_1 rfl rfl ?_
  refine V.cVI rfl vX5_readsSum lkX5_60 wX5_readsSum (ci := 5) rfl (by rfl) (As := [.int l1]) rfl rfl rfl dX5_readsComparison_2 hs (fun x2 im2 h2 => ?_)
  exact k x2 im2 h2
theorem bX5_readsComparison_5 {d : Nat} {b : Nat × Nat} {bo : Bool} {im : XI} {Q : Option Value → XS → XI → Prop} {l1 : Int32} {s0 : Int32}  (kt : ¬ s0 = 0 → V mX5_readsComparison d b 10 [some (.ref 28), some (.int l1), none] [] (SC bo) im Q) (kf : s0 = 0 → V mX5_readsComparison d b 8 [some (.ref 28), some (.int l1), none] [] (SC bo) im Q) : V mX5_readsComparison d b 5 [some (.ref 28), some (.int l1), none] [.int s0] (SC bo) im Q := by
  refine V.if_ne (tgt := 10) dX5_readsComparison_5 (by decide) (fun h => ?_) (fun h => ?_)
  · exact kt h
  · exact kf h
theorem bX5_readsComparison_8 {d : Nat} {b : Nat × Nat} {bo : Bool} {im : XI} {Q : Option Value → XS → XI → Prop} {l1 : Int32}  (hq : Q (some (.int (0 : Int32))) (SC bo) im) : V mX5_readsComparison d b 8 [some (.ref 28), some (.int l1), none] [] (SC bo) im Q := by
  refine V.iconst (v := 0) dX5_readsComparison_8 (by decide) ?_
  exact V.zret rfl (by decide) dX5_readsComparison_9 hq
theorem bX5_readsComparison_10 {d : Nat} {b : Nat × Nat} {bo : Bool} {im : XI} {Q : Option Value → XS → XI → Prop} {l1 : Int32} {P : Int32 → XI → Prop}  (hs : SpI mX5_next d [.ref 28] (SC bo) im P) (k : ∀ x2 im2, P x2 im2 → V mX5_readsComparison (d + 1) b 14 [some (.ref 28), some (.int l1), none] [.int x2] (SC bo) im2 Q) : V mX5_readsComparison (d + 1) b 10 [some (.ref 28), some (.int l1), none] [] (SC bo) im Q := by
  refine V.aload_n dX5_readsComparison_10 rfl rfl ?_
  refine V.cVI rfl vX5_next lkX5_45 wX5_next (ci := 5) rfl (by rfl) (As := []) rfl rfl rfl dX5_readsComparison_11 hs (fun x2 im2 h2 => ?_)
  exact k x2 im2 h2
theorem bX5_readsComparison_14 {d : Nat} {b : Nat × Nat} {bo : Bool} {im : XI} {Q : Option Value → XS → XI → Prop} {l1 : Int32} {s0 : Int32}  (kt : s0 = (60 : Int32) → V mX5_readsComparison d b 35 [some (.ref 28), some (.int l1), some (.int s0)] [] (SC bo) im Q) (kf : ¬ s0 = (60 : Int32) → V mX5_readsComparison d b 21 [some (.ref 28), some (.int l1), some (.int s0)] [] (SC bo) im Q) : V mX5_readsComparison d b 14 [some (.ref 28), some (.int l1), none] [.int s0] (SC bo) im Q := by
  refine V.istore_n dX5_readsComparison_14 rfl rfl rfl ?_
  refine V.iload_n dX5_readsComparison_15 rfl rfl ?_
  refine V.bipush (v := 60) dX5_readsComparison_16 (by decide) ?_
  refine V.icmp_eq (tgt := 35) dX5_readsComparison_18 (by decide) (fun h => ?_) (fun h => ?_)
  · exact kt h
  · exact kf h
theorem bX5_readsComparison_21 {d : Nat} {b : Nat × Nat} {bo : Bool} {im : XI} {Q : Option Value → XS → XI → Prop} {l1 : Int32} {l2 : Int32}  (kt : l2 = (61 : Int32) → V mX5_readsComparison d b 35 [some (.ref 28), some (.int l1), some (.int l2)] [] (SC bo) im Q) (kf : ¬ l2 = (61 : Int32) → V mX5_readsComparison d b 27 [some (.ref 28), some (.int l1), some (.int l2)] [] (SC bo) im Q) : V mX5_readsComparison d b 21 [some (.ref 28), some (.int l1), some (.int l2)] [] (SC bo) im Q := by
  refine V.iload_n dX5_readsComparison_21 rfl rfl ?_
  refine V.bipush (v := 61) dX5_readsComparison_22 (by decide) ?_
  refine V.icmp_eq (tgt := 35) dX5_readsComparison_24 (by decide) (fun h => ?_) (fun h => ?_)
  · exact kt h
  · exact kf h
theorem bX5_readsComparison_27 {d : Nat} {b : Nat × Nat} {bo : Bool} {im : XI} {Q : Option Value → XS → XI → Prop} {l1 : Int32} {l2 : Int32}  (kt : l2 = (62 : Int32) → V mX5_readsComparison d b 35 [some (.ref 28), some (.int l1), some (.int l2)] [] (SC bo) im Q) (kf : ¬ l2 = (62 : Int32) → V mX5_readsComparison d b 33 [some (.ref 28), some (.int l1), some (.int l2)] [] (SC bo) im Q) : V mX5_readsComparison d b 27 [some (.ref 28), some (.int l1), some (.int l2)] [] (SC bo) im Q := by
  refine V.iload_n dX5_readsComparison_27 rfl rfl ?_
  refine V.bipush (v := 62) dX5_readsComparison_28 (by decide) ?_
  refine V.icmp_eq (tgt := 35) dX5_readsComparison_30 (by decide) (fun h => ?_) (fun h => ?_)
  · exact kt h
  · exact kf h
theorem bX5_readsComparison_33 {d : Nat} {b : Nat × Nat} {bo : Bool} {im : XI} {Q : Option Value → XS → XI → Prop} {l1 : Int32} {l2 : Int32}  (hq : Q (some (.int (1 : Int32))) (SC bo) im) : V mX5_readsComparison d b 33 [some (.ref 28), some (.int l1), some (.int l2)] [] (SC bo) im Q := by
  refine V.iconst (v := 1) dX5_readsComparison_33 (by decide) ?_
  exact V.zret rfl (by decide) dX5_readsComparison_34 hq
theorem bX5_readsComparison_35 {d : Nat} {b : Nat × Nat} {bo : Bool} {im : XI} {Q : Option Value → XS → XI → Prop} {l1 : Int32} {l2 : Int32} {P : Int32 → XI → Prop}  (hs : SpI mX5_readsSum d [.ref 28, .int l1] (SC bo) (xup im 28 3 ((im 28 3) + (1 : Int32))) P) (k : ∀ x2 im2, P x2 im2 → V mX5_readsComparison (d + 1) b 50 [some (.ref 28), some (.int l1), some (.int l2)] [.int x2] (SC bo) im2 Q) : V mX5_readsComparison (d + 1) b 35 [some (.ref 28), some (.int l1), some (.int l2)] [] (SC bo) im Q := by
  refine V.aload_n dX5_readsComparison_35 rfl rfl ?_
  refine V.dup dX5_readsComparison_36 rfl ?_
  refine V.getI fX5_27 rfl (by rfl) dX5_readsComparison_37 ?_
  refine V.iconst (v := 1) dX5_readsComparison_40 (by decide) ?_
  refine V.iadd dX5_readsComparison_41 ?_
  refine V.putI fX5_27 (fun h => by cases h) rfl (by rfl) dX5_readsComparison_42 ?_
  refine V.aload_n dX5_readsComparison_45 rfl rfl ?_
  refine V.iload_n dX5_readsComparison_46 rfl rfl ?_
  refine V.cVI rfl vX5_readsSum lkX5_60 wX5_readsSum (ci := 5) rfl (by rfl) (As := [.int l1]) rfl rfl rfl dX5_readsComparison_47 hs (fun x2 im2 h2 => ?_)
  exact k x2 im2 h2
theorem bX5_readsComparison_50 {d : Nat} {b : Nat × Nat} {bo : Bool} {im : XI} {Q : Option Value → XS → XI → Prop} {l1 : Int32} {l2 : Int32} {s0 : Int32}  (kt : ¬ s0 = 0 → V mX5_readsComparison d b 55 [some (.ref 28), some (.int l1), some (.int l2)] [] (SC bo) im Q) (kf : s0 = 0 → V mX5_readsComparison d b 53 [some (.ref 28), some (.int l1), some (.int l2)] [] (SC bo) im Q) : V mX5_readsComparison d b 50 [some (.ref 28), some (.int l1), some (.int l2)] [.int s0] (SC bo) im Q := by
  refine V.if_ne (tgt := 55) dX5_readsComparison_50 (by decide) (fun h => ?_) (fun h => ?_)
  · exact kt h
  · exact kf h
theorem bX5_readsComparison_53 {d : Nat} {b : Nat × Nat} {bo : Bool} {im : XI} {Q : Option Value → XS → XI → Prop} {l1 : Int32} {l2 : Int32}  (hq : Q (some (.int (0 : Int32))) (SC bo) im) : V mX5_readsComparison d b 53 [some (.ref 28), some (.int l1), some (.int l2)] [] (SC bo) im Q := by
  refine V.iconst (v := 0) dX5_readsComparison_53 (by decide) ?_
  exact V.zret rfl (by decide) dX5_readsComparison_54 hq
theorem bX5_readsComparison_55 {d : Nat} {b : Nat × Nat} {bo : Bool} {im : XI} {Q : Option Value → XS → XI → Prop} {l1 : Int32} {l2 : Int32} {P : Int32 → XI → Prop}  (hs : SpI mX6_add d [.ref 29, .int (-l2)] (SC bo) im P) (k : ∀ x2 im2, P x2 im2 → V mX5_readsComparison (d + 1) b 64 [some (.ref 28), some (.int l1), some (.int l2)] [.int x2] (SC bo) im2 Q) : V mX5_readsComparison (d + 1) b 55 [some (.ref 28), some (.int l1), some (.int l2)] [] (SC bo) im Q := by
  refine V.aload_n dX5_readsComparison_55 rfl rfl ?_
  refine V.getR fX5_14 rfl (by rfl) (by rfl) dX5_readsComparison_56 ?_
  refine V.iload_n dX5_readsComparison_59 rfl rfl ?_
  refine V.ineg dX5_readsComparison_60 ?_
  refine V.cVI rfl vX6_add lkX5_54 wX6_add (ci := 6) rfl (by rfl) (As := [.int (-l2)]) rfl rfl rfl dX5_readsComparison_61 hs (fun x2 im2 h2 => ?_)
  exact k x2 im2 h2
theorem bX5_readsComparison_64 {d : Nat} {b : Nat × Nat} {bo : Bool} {im : XI} {Q : Option Value → XS → XI → Prop} {l1 : Int32} {l2 : Int32} {s0 : Int32}  (hq : Q (some (.int (1 : Int32))) (SC bo) im) : V mX5_readsComparison d b 64 [some (.ref 28), some (.int l1), some (.int l2)] [.int s0] (SC bo) im Q := by
  refine V.pop dX5_readsComparison_64 rfl ?_
  refine V.iconst (v := 1) dX5_readsComparison_65 (by decide) ?_
  exact V.zret rfl (by decide) dX5_readsComparison_66 hq
theorem bX5_readsSum_0 {d : Nat} {b : Nat × Nat} {bo : Bool} {im : XI} {Q : Option Value → XS → XI → Prop} {l1 : Int32} {P : Int32 → XI → Prop}  (hs : SpI mX5_readsProduct d [.ref 28, .int l1] (SC bo) im P) (k : ∀ x2 im2, P x2 im2 → V mX5_readsSum (d + 1) b 5 [some (.ref 28), some (.int l1), none, none, none] [.int x2] (SC bo) im2 Q) : V mX5_readsSum (d + 1) b 0 [some (.ref 28), some (.int l1), none, none, none] [] (SC bo) im Q := by
  refine V.aload_n dX5_readsSum_0 rfl rfl ?_
  refine V.iload_n dX5_readsSum_1 rfl rfl ?_
  refine V.cVI rfl vX5_readsProduct lkX5_63 wX5_readsProduct (ci := 5) rfl (by rfl) (As := [.int l1]) rfl rfl rfl dX5_readsSum_2 hs (fun x2 im2 h2 => ?_)
  exact k x2 im2 h2
theorem bX5_readsSum_5 {d : Nat} {b : Nat × Nat} {bo : Bool} {im : XI} {Q : Option Value → XS → XI → Prop} {l1 : Int32} {s0 : Int32}  (k : V mX5_readsSum d b 8 [some (.ref 28), some (.int l1), some (.int s0), some (.int (0 : Int32)), none] [] (SC bo) im Q) : V mX5_readsSum d b 5 [some (.ref 28), some (.int l1), none, none, none] [.int s0] (SC bo) im Q := by
  refine V.istore_n dX5_readsSum_5 rfl rfl rfl ?_
  refine V.iconst (v := 0) dX5_readsSum_6 (by decide) ?_
  refine V.istore_n dX5_readsSum_7 rfl rfl rfl ?_
  exact k
theorem bX5_readsSum_8 {d : Nat} {b : Nat × Nat} {bo : Bool} {im : XI} {Q : Option Value → XS → XI → Prop} {l1 : Int32} {l2 : Int32} {l3 : Int32}  (kt : (60 : Int32) ≤ l3 → V mX5_readsSum d b 73 [some (.ref 28), some (.int l1), some (.int l2), some (.int l3), none] [] (SC bo) im Q) (kf : ¬ (60 : Int32) ≤ l3 → V mX5_readsSum d b 14 [some (.ref 28), some (.int l1), some (.int l2), some (.int l3), none] [] (SC bo) im Q) : V mX5_readsSum d b 8 [some (.ref 28), some (.int l1), some (.int l2), some (.int l3), none] [] (SC bo) im Q := by
  refine V.iload_n dX5_readsSum_8 rfl rfl ?_
  refine V.bipush (v := 60) dX5_readsSum_9 (by decide) ?_
  refine V.icmp_ge (tgt := 73) dX5_readsSum_11 (by decide) (fun h => ?_) (fun h => ?_)
  · exact kt h
  · exact kf h
theorem bX5_readsSum_14 {d : Nat} {b : Nat × Nat} {bo : Bool} {im : XI} {Q : Option Value → XS → XI → Prop} {l1 : Int32} {l2 : Int32} {l3 : Int32}  (kt : l2 = 0 → V mX5_readsSum d b 73 [some (.ref 28), some (.int l1), some (.int l2), some (.int l3), none] [] (SC bo) im Q) (kf : ¬ l2 = 0 → V mX5_readsSum d b 18 [some (.ref 28), some (.int l1), some (.int l2), some (.int l3), none] [] (SC bo) im Q) : V mX5_readsSum d b 14 [some (.ref 28), some (.int l1), some (.int l2), some (.int l3), none] [] (SC bo) im Q := by
  refine V.iload_n dX5_readsSum_14 rfl rfl ?_
  refine V.if_eq (tgt := 73) dX5_readsSum_15 (by decide) (fun h => ?_) (fun h => ?_)
  · exact kt h
  · exact kf h
theorem bX5_readsSum_18 {d : Nat} {b : Nat × Nat} {bo : Bool} {im : XI} {Q : Option Value → XS → XI → Prop} {l1 : Int32} {l2 : Int32} {l3 : Int32} {P : Int32 → XI → Prop}  (hs : SpI mX5_next d [.ref 28] (SC bo) im P) (k : ∀ x2 im2, P x2 im2 → V mX5_readsSum (d + 1) b 22 [some (.ref 28), some (.int l1), some (.int l2), some (.int l3), none] [.int x2] (SC bo) im2 Q) : V mX5_readsSum (d + 1) b 18 [some (.ref 28), some (.int l1), some (.int l2), some (.int l3), none] [] (SC bo) im Q := by
  refine V.aload_n dX5_readsSum_18 rfl rfl ?_
  refine V.cVI rfl vX5_next lkX5_45 wX5_next (ci := 5) rfl (by rfl) (As := []) rfl rfl rfl dX5_readsSum_19 hs (fun x2 im2 h2 => ?_)
  exact k x2 im2 h2
theorem bX5_readsSum_22 {d : Nat} {b : Nat × Nat} {bo : Bool} {im : XI} {Q : Option Value → XS → XI → Prop} {l1 : Int32} {l2 : Int32} {l3 : Int32} {s0 : Int32}  (kt : s0 = (43 : Int32) → V mX5_readsSum d b 40 [some (.ref 28), some (.int l1), some (.int l2), some (.int l3), some (.int s0)] [] (SC bo) im Q) (kf : ¬ s0 = (43 : Int32) → V mX5_readsSum d b 31 [some (.ref 28), some (.int l1), some (.int l2), some (.int l3), some (.int s0)] [] (SC bo) im Q) : V mX5_readsSum d b 22 [some (.ref 28), some (.int l1), some (.int l2), some (.int l3), none] [.int s0] (SC bo) im Q := by
  refine V.istore dX5_readsSum_22 rfl rfl ?_
  refine V.iload dX5_readsSum_24 rfl ?_
  refine V.bipush (v := 43) dX5_readsSum_26 (by decide) ?_
  refine V.icmp_eq (tgt := 40) dX5_readsSum_28 (by decide) (fun h => ?_) (fun h => ?_)
  · exact kt h
  · exact kf h
theorem bX5_readsSum_31 {d : Nat} {b : Nat × Nat} {bo : Bool} {im : XI} {Q : Option Value → XS → XI → Prop} {l1 : Int32} {l2 : Int32} {l3 : Int32} {l4 : Int32}  (kt : l4 = (45 : Int32) → V mX5_readsSum d b 40 [some (.ref 28), some (.int l1), some (.int l2), some (.int l3), some (.int l4)] [] (SC bo) im Q) (kf : ¬ l4 = (45 : Int32) → V mX5_readsSum d b 38 [some (.ref 28), some (.int l1), some (.int l2), some (.int l3), some (.int l4)] [] (SC bo) im Q) : V mX5_readsSum d b 31 [some (.ref 28), some (.int l1), some (.int l2), some (.int l3), some (.int l4)] [] (SC bo) im Q := by
  refine V.iload dX5_readsSum_31 rfl ?_
  refine V.bipush (v := 45) dX5_readsSum_33 (by decide) ?_
  refine V.icmp_eq (tgt := 40) dX5_readsSum_35 (by decide) (fun h => ?_) (fun h => ?_)
  · exact kt h
  · exact kf h
theorem bX5_readsSum_38 {d : Nat} {b : Nat × Nat} {bo : Bool} {im : XI} {Q : Option Value → XS → XI → Prop} {l1 : Int32} {l2 : Int32} {l3 : Int32} {l4 : Int32}  (hq : Q (some (.int (1 : Int32))) (SC bo) im) : V mX5_readsSum d b 38 [some (.ref 28), some (.int l1), some (.int l2), some (.int l3), some (.int l4)] [] (SC bo) im Q := by
  refine V.iconst (v := 1) dX5_readsSum_38 (by decide) ?_
  exact V.zret rfl (by decide) dX5_readsSum_39 hq
theorem bX5_readsSum_40 {d : Nat} {b : Nat × Nat} {bo : Bool} {im : XI} {Q : Option Value → XS → XI → Prop} {l1 : Int32} {l2 : Int32} {l3 : Int32} {l4 : Int32} {P : Int32 → XI → Prop}  (hs : SpI mX5_readsProduct d [.ref 28, .int l1] (SC bo) (xup im 28 3 ((im 28 3) + (1 : Int32))) P) (k : ∀ x2 im2, P x2 im2 → V mX5_readsSum (d + 1) b 55 [some (.ref 28), some (.int l1), some (.int l2), some (.int l3), some (.int l4)] [.int x2] (SC bo) im2 Q) : V mX5_readsSum (d + 1) b 40 [some (.ref 28), some (.int l1), some (.int l2), some (.int l3), some (.int l4)] [] (SC bo) im Q := by
  refine V.aload_n dX5_readsSum_40 rfl rfl ?_
  refine V.dup dX5_readsSum_41 rfl ?_
  refine V.getI fX5_27 rfl (by rfl) dX5_readsSum_42 ?_
  refine V.iconst (v := 1) dX5_readsSum_45 (by decide) ?_
  refine V.iadd dX5_readsSum_46 ?_
  refine V.putI fX5_27 (fun h => by cases h) rfl (by rfl) dX5_readsSum_47 ?_
  refine V.aload_n dX5_readsSum_50 rfl rfl ?_
  refine V.iload_n dX5_readsSum_51 rfl rfl ?_
  refine V.cVI rfl vX5_readsProduct lkX5_63 wX5_readsProduct (ci := 5) rfl (by rfl) (As := [.int l1]) rfl rfl rfl dX5_readsSum_52 hs (fun x2 im2 h2 => ?_)
  exact k x2 im2 h2
theorem bX5_readsSum_55 {d : Nat} {b : Nat × Nat} {bo : Bool} {im : XI} {Q : Option Value → XS → XI → Prop} {l1 : Int32} {l2 : Int32} {l3 : Int32} {l4 : Int32} {s0 : Int32} {P : Int32 → XI → Prop}  (hs : SpI mX6_add d [.ref 29, .int (-l4)] (SC bo) im P) (k : ∀ x2 im2, P x2 im2 → V mX5_readsSum (d + 1) b 66 [some (.ref 28), some (.int l1), some (.int s0), some (.int l3), some (.int l4)] [.int x2] (SC bo) im2 Q) : V mX5_readsSum (d + 1) b 55 [some (.ref 28), some (.int l1), some (.int l2), some (.int l3), some (.int l4)] [.int s0] (SC bo) im Q := by
  refine V.istore_n dX5_readsSum_55 rfl rfl rfl ?_
  refine V.aload_n dX5_readsSum_56 rfl rfl ?_
  refine V.getR fX5_14 rfl (by rfl) (by rfl) dX5_readsSum_57 ?_
  refine V.iload dX5_readsSum_60 rfl ?_
  refine V.ineg dX5_readsSum_62 ?_
  refine V.cVI rfl vX6_add lkX5_54 wX6_add (ci := 6) rfl (by rfl) (As := [.int (-l4)]) rfl rfl rfl dX5_readsSum_63 hs (fun x2 im2 h2 => ?_)
  exact k x2 im2 h2
theorem bX5_readsSum_66 {d : Nat} {b : Nat × Nat} {bo : Bool} {im : XI} {Q : Option Value → XS → XI → Prop} {l1 : Int32} {l2 : Int32} {l3 : Int32} {l4 : Int32} {s0 : Int32}  (k : V mX5_readsSum d b 8 [some (.ref 28), some (.int l1), some (.int l2), some (.int (l3 + (1 : Int32))), none] [] (SC bo) im Q) : V mX5_readsSum d b 66 [some (.ref 28), some (.int l1), some (.int l2), some (.int l3), some (.int l4)] [.int s0] (SC bo) im Q := by
  refine V.pop dX5_readsSum_66 rfl ?_
  refine V.iinc (v := (l3 + (1 : Int32))) dX5_readsSum_67 rfl rfl rfl ?_
  refine V.goto (tgt := 8) dX5_readsSum_70 (by decide) ?_
  exact V.weakm [true, true, true, true, false] rfl (k)
theorem bX5_readsSum_73 {d : Nat} {b : Nat × Nat} {bo : Bool} {im : XI} {Q : Option Value → XS → XI → Prop} {l1 : Int32} {l2 : Int32} {l3 : Int32} (g0 : l2 = 0 ∨ l2 = 1) (hq : Q (some (.int l2)) (SC bo) im) : V mX5_readsSum d b 73 [some (.ref 28), some (.int l1), some (.int l2), some (.int l3), none] [] (SC bo) im Q := by
  refine V.iload_n dX5_readsSum_73 rfl rfl ?_
  exact V.zret rfl g0 dX5_readsSum_74 hq
theorem bX5_readsProduct_0 {d : Nat} {b : Nat × Nat} {bo : Bool} {im : XI} {Q : Option Value → XS → XI → Prop} {l1 : Int32} {P : Int32 → XI → Prop}  (hs : SpI mX5_readsFactor d [.ref 28, .int l1] (SC bo) im P) (k : ∀ x2 im2, P x2 im2 → V mX5_readsProduct (d + 1) b 5 [some (.ref 28), some (.int l1), none, none, none] [.int x2] (SC bo) im2 Q) : V mX5_readsProduct (d + 1) b 0 [some (.ref 28), some (.int l1), none, none, none] [] (SC bo) im Q := by
  refine V.aload_n dX5_readsProduct_0 rfl rfl ?_
  refine V.iload_n dX5_readsProduct_1 rfl rfl ?_
  refine V.cVI rfl vX5_readsFactor lkX5_66 wX5_readsFactor (ci := 5) rfl (by rfl) (As := [.int l1]) rfl rfl rfl dX5_readsProduct_2 hs (fun x2 im2 h2 => ?_)
  exact k x2 im2 h2
theorem bX5_readsProduct_5 {d : Nat} {b : Nat × Nat} {bo : Bool} {im : XI} {Q : Option Value → XS → XI → Prop} {l1 : Int32} {s0 : Int32}  (k : V mX5_readsProduct d b 8 [some (.ref 28), some (.int l1), some (.int s0), some (.int (0 : Int32)), none] [] (SC bo) im Q) : V mX5_readsProduct d b 5 [some (.ref 28), some (.int l1), none, none, none] [.int s0] (SC bo) im Q := by
  refine V.istore_n dX5_readsProduct_5 rfl rfl rfl ?_
  refine V.iconst (v := 0) dX5_readsProduct_6 (by decide) ?_
  refine V.istore_n dX5_readsProduct_7 rfl rfl rfl ?_
  exact k
theorem bX5_readsProduct_8 {d : Nat} {b : Nat × Nat} {bo : Bool} {im : XI} {Q : Option Value → XS → XI → Prop} {l1 : Int32} {l2 : Int32} {l3 : Int32}  (kt : (60 : Int32) ≤ l3 → V mX5_readsProduct d b 80 [some (.ref 28), some (.int l1), some (.int l2), some (.int l3), none] [] (SC bo) im Q) (kf : ¬ (60 : Int32) ≤ l3 → V mX5_readsProduct d b 14 [some (.ref 28), some (.int l1), some (.int l2), some (.int l3), none] [] (SC bo) im Q) : V mX5_readsProduct d b 8 [some (.ref 28), some (.int l1), some (.int l2), some (.int l3), none] [] (SC bo) im Q := by
  refine V.iload_n dX5_readsProduct_8 rfl rfl ?_
  refine V.bipush (v := 60) dX5_readsProduct_9 (by decide) ?_
  refine V.icmp_ge (tgt := 80) dX5_readsProduct_11 (by decide) (fun h => ?_) (fun h => ?_)
  · exact kt h
  · exact kf h
theorem bX5_readsProduct_14 {d : Nat} {b : Nat × Nat} {bo : Bool} {im : XI} {Q : Option Value → XS → XI → Prop} {l1 : Int32} {l2 : Int32} {l3 : Int32}  (kt : l2 = 0 → V mX5_readsProduct d b 80 [some (.ref 28), some (.int l1), some (.int l2), some (.int l3), none] [] (SC bo) im Q) (kf : ¬ l2 = 0 → V mX5_readsProduct d b 18 [some (.ref 28), some (.int l1), some (.int l2), some (.int l3), none] [] (SC bo) im Q) : V mX5_readsProduct d b 14 [some (.ref 28), some (.int l1), some (.int l2), some (.int l3), none] [] (SC bo) im Q := by
  refine V.iload_n dX5_readsProduct_14 rfl rfl ?_
  refine V.if_eq (tgt := 80) dX5_readsProduct_15 (by decide) (fun h => ?_) (fun h => ?_)
  · exact kt h
  · exact kf h
theorem bX5_readsProduct_18 {d : Nat} {b : Nat × Nat} {bo : Bool} {im : XI} {Q : Option Value → XS → XI → Prop} {l1 : Int32} {l2 : Int32} {l3 : Int32} {P : Int32 → XI → Prop}  (hs : SpI mX5_next d [.ref 28] (SC bo) im P) (k : ∀ x2 im2, P x2 im2 → V mX5_readsProduct (d + 1) b 22 [some (.ref 28), some (.int l1), some (.int l2), some (.int l3), none] [.int x2] (SC bo) im2 Q) : V mX5_readsProduct (d + 1) b 18 [some (.ref 28), some (.int l1), some (.int l2), some (.int l3), none] [] (SC bo) im Q := by
  refine V.aload_n dX5_readsProduct_18 rfl rfl ?_
  refine V.cVI rfl vX5_next lkX5_45 wX5_next (ci := 5) rfl (by rfl) (As := []) rfl rfl rfl dX5_readsProduct_19 hs (fun x2 im2 h2 => ?_)
  exact k x2 im2 h2
theorem bX5_readsProduct_22 {d : Nat} {b : Nat × Nat} {bo : Bool} {im : XI} {Q : Option Value → XS → XI → Prop} {l1 : Int32} {l2 : Int32} {l3 : Int32} {s0 : Int32}  (kt : s0 = (42 : Int32) → V mX5_readsProduct d b 47 [some (.ref 28), some (.int l1), some (.int l2), some (.int l3), some (.int s0)] [] (SC bo) im Q) (kf : ¬ s0 = (42 : Int32) → V mX5_readsProduct d b 31 [some (.ref 28), some (.int l1), some (.int l2), some (.int l3), some (.int s0)] [] (SC bo) im Q) : V mX5_readsProduct d b 22 [some (.ref 28), some (.int l1), some (.int l2), some (.int l3), none] [.int s0] (SC bo) im Q := by
  refine V.istore dX5_readsProduct_22 rfl rfl ?_
  refine V.iload dX5_readsProduct_24 rfl ?_
  refine V.bipush (v := 42) dX5_readsProduct_26 (by decide) ?_
  refine V.icmp_eq (tgt := 47) dX5_readsProduct_28 (by decide) (fun h => ?_) (fun h => ?_)
  · exact kt h
  · exact kf h
theorem bX5_readsProduct_31 {d : Nat} {b : Nat × Nat} {bo : Bool} {im : XI} {Q : Option Value → XS → XI → Prop} {l1 : Int32} {l2 : Int32} {l3 : Int32} {l4 : Int32}  (kt : l4 = (47 : Int32) → V mX5_readsProduct d b 47 [some (.ref 28), some (.int l1), some (.int l2), some (.int l3), some (.int l4)] [] (SC bo) im Q) (kf : ¬ l4 = (47 : Int32) → V mX5_readsProduct d b 38 [some (.ref 28), some (.int l1), some (.int l2), some (.int l3), some (.int l4)] [] (SC bo) im Q) : V mX5_readsProduct d b 31 [some (.ref 28), some (.int l1), some (.int l2), some (.int l3), some (.int l4)] [] (SC bo) im Q := by
  refine V.iload dX5_readsProduct_31 rfl ?_
  refine V.bipush (v := 47) dX5_readsProduct_33 (by decide) ?_
  refine V.icmp_eq (tgt := 47) dX5_readsProduct_35 (by decide) (fun h => ?_) (fun h => ?_)
  · exact kt h
  · exact kf h
theorem bX5_readsProduct_38 {d : Nat} {b : Nat × Nat} {bo : Bool} {im : XI} {Q : Option Value → XS → XI → Prop} {l1 : Int32} {l2 : Int32} {l3 : Int32} {l4 : Int32}  (kt : l4 = (37 : Int32) → V mX5_readsProduct d b 47 [some (.ref 28), some (.int l1), some (.int l2), some (.int l3), some (.int l4)] [] (SC bo) im Q) (kf : ¬ l4 = (37 : Int32) → V mX5_readsProduct d b 45 [some (.ref 28), some (.int l1), some (.int l2), some (.int l3), some (.int l4)] [] (SC bo) im Q) : V mX5_readsProduct d b 38 [some (.ref 28), some (.int l1), some (.int l2), some (.int l3), some (.int l4)] [] (SC bo) im Q := by
  refine V.iload dX5_readsProduct_38 rfl ?_
  refine V.bipush (v := 37) dX5_readsProduct_40 (by decide) ?_
  refine V.icmp_eq (tgt := 47) dX5_readsProduct_42 (by decide) (fun h => ?_) (fun h => ?_)
  · exact kt h
  · exact kf h
theorem bX5_readsProduct_45 {d : Nat} {b : Nat × Nat} {bo : Bool} {im : XI} {Q : Option Value → XS → XI → Prop} {l1 : Int32} {l2 : Int32} {l3 : Int32} {l4 : Int32}  (hq : Q (some (.int (1 : Int32))) (SC bo) im) : V mX5_readsProduct d b 45 [some (.ref 28), some (.int l1), some (.int l2), some (.int l3), some (.int l4)] [] (SC bo) im Q := by
  refine V.iconst (v := 1) dX5_readsProduct_45 (by decide) ?_
  exact V.zret rfl (by decide) dX5_readsProduct_46 hq
theorem bX5_readsProduct_47 {d : Nat} {b : Nat × Nat} {bo : Bool} {im : XI} {Q : Option Value → XS → XI → Prop} {l1 : Int32} {l2 : Int32} {l3 : Int32} {l4 : Int32} {P : Int32 → XI → Prop}  (hs : SpI mX5_readsFactor d [.ref 28, .int l1] (SC bo) (xup im 28 3 ((im 28 3) + (1 : Int32))) P) (k : ∀ x2 im2, P x2 im2 → V mX5_readsProduct (d + 1) b 62 [some (.ref 28), some (.int l1), some (.int l2), some (.int l3), some (.int l4)] [.int x2] (SC bo) im2 Q) : V mX5_readsProduct (d + 1) b 47 [some (.ref 28), some (.int l1), some (.int l2), some (.int l3), some (.int l4)] [] (SC bo) im Q := by
  refine V.aload_n dX5_readsProduct_47 rfl rfl ?_
  refine V.dup dX5_readsProduct_48 rfl ?_
  refine V.getI fX5_27 rfl (by rfl) dX5_readsProduct_49 ?_
  refine V.iconst (v := 1) dX5_readsProduct_52 (by decide) ?_
  refine V.iadd dX5_readsProduct_53 ?_
  refine V.putI fX5_27 (fun h => by cases h) rfl (by rfl) dX5_readsProduct_54 ?_
  refine V.aload_n dX5_readsProduct_57 rfl rfl ?_
  refine V.iload_n dX5_readsProduct_58 rfl rfl ?_
  refine V.cVI rfl vX5_readsFactor lkX5_66 wX5_readsFactor (ci := 5) rfl (by rfl) (As := [.int l1]) rfl rfl rfl dX5_readsProduct_59 hs (fun x2 im2 h2 => ?_)
  exact k x2 im2 h2
theorem bX5_readsProduct_62 {d : Nat} {b : Nat × Nat} {bo : Bool} {im : XI} {Q : Option Value → XS → XI → Prop} {l1 : Int32} {l2 : Int32} {l3 : Int32} {l4 : Int32} {s0 : Int32} {P : Int32 → XI → Prop}  (hs : SpI mX6_add d [.ref 29, .int (-l4)] (SC bo) im P) (k : ∀ x2 im2, P x2 im2 → V mX5_readsProduct (d + 1) b 73 [some (.ref 28), some (.int l1), some (.int s0), some (.int l3), some (.int l4)] [.int x2] (SC bo) im2 Q) : V mX5_readsProduct (d + 1) b 62 [some (.ref 28), some (.int l1), some (.int l2), some (.int l3), some (.int l4)] [.int s0] (SC bo) im Q := by
  refine V.istore_n dX5_readsProduct_62 rfl rfl rfl ?_
  refine V.aload_n dX5_readsProduct_63 rfl rfl ?_
  refine V.getR fX5_14 rfl (by rfl) (by rfl) dX5_readsProduct_64 ?_
  refine V.iload dX5_readsProduct_67 rfl ?_
  refine V.ineg dX5_readsProduct_69 ?_
  refine V.cVI rfl vX6_add lkX5_54 wX6_add (ci := 6) rfl (by rfl) (As := [.int (-l4)]) rfl rfl rfl dX5_readsProduct_70 hs (fun x2 im2 h2 => ?_)
  exact k x2 im2 h2
theorem bX5_readsProduct_73 {d : Nat} {b : Nat × Nat} {bo : Bool} {im : XI} {Q : Option Value → XS → XI → Prop} {l1 : Int32} {l2 : Int32} {l3 : Int32} {l4 : Int32} {s0 : Int32}  (k : V mX5_readsProduct d b 8 [some (.ref 28), some (.int l1), some (.int l2), some (.int (l3 + (1 : Int32))), none] [] (SC bo) im Q) : V mX5_readsProduct d b 73 [some (.ref 28), some (.int l1), some (.int l2), some (.int l3), some (.int l4)] [.int s0] (SC bo) im Q := by
  refine V.pop dX5_readsProduct_73 rfl ?_
  refine V.iinc (v := (l3 + (1 : Int32))) dX5_readsProduct_74 rfl rfl rfl ?_
  refine V.goto (tgt := 8) dX5_readsProduct_77 (by decide) ?_
  exact V.weakm [true, true, true, true, false] rfl (k)
theorem bX5_readsProduct_80 {d : Nat} {b : Nat × Nat} {bo : Bool} {im : XI} {Q : Option Value → XS → XI → Prop} {l1 : Int32} {l2 : Int32} {l3 : Int32} (g0 : l2 = 0 ∨ l2 = 1) (hq : Q (some (.int l2)) (SC bo) im) : V mX5_readsProduct d b 80 [some (.ref 28), some (.int l1), some (.int l2), some (.int l3), none] [] (SC bo) im Q := by
  refine V.iload_n dX5_readsProduct_80 rfl rfl ?_
  exact V.zret rfl g0 dX5_readsProduct_81 hq
theorem bX5_readsFactor_0 {d : Nat} {b : Nat × Nat} {bo : Bool} {im : XI} {Q : Option Value → XS → XI → Prop} {l1 : Int32} {P : Int32 → XI → Prop}  (hs : SpI mX5_next d [.ref 28] (SC bo) im P) (k : ∀ x2 im2, P x2 im2 → V mX5_readsFactor (d + 1) b 4 [some (.ref 28), some (.int l1), none, none, none] [.int x2] (SC bo) im2 Q) : V mX5_readsFactor (d + 1) b 0 [some (.ref 28), some (.int l1), none, none, none] [] (SC bo) im Q := by
  refine V.aload_n dX5_readsFactor_0 rfl rfl ?_
  refine V.cVI rfl vX5_next lkX5_45 wX5_next (ci := 5) rfl (by rfl) (As := []) rfl rfl rfl dX5_readsFactor_1 hs (fun x2 im2 h2 => ?_)
  exact k x2 im2 h2
theorem bX5_readsFactor_4 {d : Nat} {b : Nat × Nat} {bo : Bool} {im : XI} {Q : Option Value → XS → XI → Prop} {l1 : Int32} {s0 : Int32} {P : Int32 → XI → Prop}  (hs : SpI mX5_isDigit d [.int s0] (SC bo) im P) (k : ∀ x2 im2, P x2 im2 → V mX5_readsFactor (d + 1) b 9 [some (.ref 28), some (.int l1), some (.int s0), none, none] [.int x2] (SC bo) im2 Q) : V mX5_readsFactor (d + 1) b 4 [some (.ref 28), some (.int l1), none, none, none] [.int s0] (SC bo) im Q := by
  refine V.istore_n dX5_readsFactor_4 rfl rfl rfl ?_
  refine V.iload_n dX5_readsFactor_5 rfl rfl ?_
  refine V.cSI rfl vX5_isDigit lkX5_69 sX5_isDigit (As := [.int s0]) rfl rfl rfl dX5_readsFactor_6 hs (fun x2 im2 h2 => ?_)
  exact k x2 im2 h2
theorem bX5_readsFactor_9 {d : Nat} {b : Nat × Nat} {bo : Bool} {im : XI} {Q : Option Value → XS → XI → Prop} {l1 : Int32} {l2 : Int32} {s0 : Int32}  (kt : s0 = 0 → V mX5_readsFactor d b 18 [some (.ref 28), some (.int l1), some (.int l2), none, none] [] (SC bo) im Q) (kf : ¬ s0 = 0 → V mX5_readsFactor d b 12 [some (.ref 28), some (.int l1), some (.int l2), none, none] [] (SC bo) im Q) : V mX5_readsFactor d b 9 [some (.ref 28), some (.int l1), some (.int l2), none, none] [.int s0] (SC bo) im Q := by
  refine V.if_eq (tgt := 18) dX5_readsFactor_9 (by decide) (fun h => ?_) (fun h => ?_)
  · exact kt h
  · exact kf h
theorem bX5_readsFactor_12 {d : Nat} {b : Nat × Nat} {bo : Bool} {im : XI} {Q : Option Value → XS → XI → Prop} {l1 : Int32} {l2 : Int32} {P : XI → Prop}  (hs : SpV mX5_readNumber d [.ref 28] (SC bo) im P) (k : ∀ im2, P im2 → V mX5_readsFactor (d + 1) b 16 [some (.ref 28), some (.int l1), some (.int l2), none, none] [] (SC bo) im2 Q) : V mX5_readsFactor (d + 1) b 12 [some (.ref 28), some (.int l1), some (.int l2), none, none] [] (SC bo) im Q := by
  refine V.aload_n dX5_readsFactor_12 rfl rfl ?_
  refine V.cVV rfl vX5_readNumber lkX5_72 wX5_readNumber (ci := 5) rfl (by rfl) (As := []) rfl rfl rfl dX5_readsFactor_13 hs (fun im2 h2 => ?_)
  exact k im2 h2
theorem bX5_readsFactor_16 {d : Nat} {b : Nat × Nat} {bo : Bool} {im : XI} {Q : Option Value → XS → XI → Prop} {l1 : Int32} {l2 : Int32}  (hq : Q (some (.int (1 : Int32))) (SC bo) im) : V mX5_readsFactor d b 16 [some (.ref 28), some (.int l1), some (.int l2), none, none] [] (SC bo) im Q := by
  refine V.iconst (v := 1) dX5_readsFactor_16 (by decide) ?_
  exact V.zret rfl (by decide) dX5_readsFactor_17 hq
theorem bX5_readsFactor_18 {d : Nat} {b : Nat × Nat} {bo : Bool} {im : XI} {Q : Option Value → XS → XI → Prop} {l1 : Int32} {l2 : Int32} {P : Int32 → XI → Prop}  (hs : SpI mX5_nameOf d [.ref 28, .int l2] (SC bo) im P) (k : ∀ x2 im2, P x2 im2 → V mX5_readsFactor (d + 1) b 23 [some (.ref 28), some (.int l1), some (.int l2), none, none] [.int x2] (SC bo) im2 Q) : V mX5_readsFactor (d + 1) b 18 [some (.ref 28), some (.int l1), some (.int l2), none, none] [] (SC bo) im Q := by
  refine V.aload_n dX5_readsFactor_18 rfl rfl ?_
  refine V.iload_n dX5_readsFactor_19 rfl rfl ?_
  refine V.cVI rfl vX5_nameOf lkX5_75 wX5_nameOf (ci := 5) rfl (by rfl) (As := [.int l2]) rfl rfl rfl dX5_readsFactor_20 hs (fun x2 im2 h2 => ?_)
  exact k x2 im2 h2
theorem bX5_readsFactor_23 {d : Nat} {b : Nat × Nat} {bo : Bool} {im : XI} {Q : Option Value → XS → XI → Prop} {l1 : Int32} {l2 : Int32} {s0 : Int32}  (kt : s0 ≤ 0 → V mX5_readsFactor d b 50 [some (.ref 28), some (.int l1), some (.int l2), some (.int s0), none] [] (SC bo) im Q) (kf : ¬ s0 ≤ 0 → V mX5_readsFactor d b 28 [some (.ref 28), some (.int l1), some (.int l2), some (.int s0), none] [] (SC bo) im Q) : V mX5_readsFactor d b 23 [some (.ref 28), some (.int l1), some (.int l2), none, none] [.int s0] (SC bo) im Q := by
  refine V.istore_n dX5_readsFactor_23 rfl rfl rfl ?_
  refine V.iload_n dX5_readsFactor_24 rfl rfl ?_
  refine V.if_le (tgt := 50) dX5_readsFactor_25 (by decide) (fun h => ?_) (fun h => ?_)
  · exact kt h
  · exact kf h
theorem bX5_readsFactor_28 {d : Nat} {b : Nat × Nat} {bo : Bool} {im : XI} {Q : Option Value → XS → XI → Prop} {l1 : Int32} {l2 : Int32} {l3 : Int32} {P : Int32 → XI → Prop}  (hs : SpI mX6_add d [.ref 29, .int (-l3)] (SC bo) (xup im 28 3 ((im 28 3) + (1 : Int32))) P) (k : ∀ x2 im2, P x2 im2 → V mX5_readsFactor (d + 1) b 47 [some (.ref 28), some (.int l1), some (.int l2), some (.int l3), none] [.int x2] (SC bo) im2 Q) : V mX5_readsFactor (d + 1) b 28 [some (.ref 28), some (.int l1), some (.int l2), some (.int l3), none] [] (SC bo) im Q := by
  refine V.aload_n dX5_readsFactor_28 rfl rfl ?_
  refine V.dup dX5_readsFactor_29 rfl ?_
  refine V.getI fX5_27 rfl (by rfl) dX5_readsFactor_30 ?_
  refine V.iconst (v := 1) dX5_readsFactor_33 (by decide) ?_
  refine V.iadd dX5_readsFactor_34 ?_
  refine V.putI fX5_27 (fun h => by cases h) rfl (by rfl) dX5_readsFactor_35 ?_
  refine V.aload_n dX5_readsFactor_38 rfl rfl ?_
  refine V.getR fX5_14 rfl (by rfl) (by rfl) dX5_readsFactor_39 ?_
  refine V.iload_n dX5_readsFactor_42 rfl rfl ?_
  refine V.ineg dX5_readsFactor_43 ?_
  refine V.cVI rfl vX6_add lkX5_54 wX6_add (ci := 6) rfl (by rfl) (As := [.int (-l3)]) rfl rfl rfl dX5_readsFactor_44 hs (fun x2 im2 h2 => ?_)
  exact k x2 im2 h2
theorem bX5_readsFactor_47 {d : Nat} {b : Nat × Nat} {bo : Bool} {im : XI} {Q : Option Value → XS → XI → Prop} {l1 : Int32} {l2 : Int32} {l3 : Int32} {s0 : Int32}  (hq : Q (some (.int (1 : Int32))) (SC bo) im) : V mX5_readsFactor d b 47 [some (.ref 28), some (.int l1), some (.int l2), some (.int l3), none] [.int s0] (SC bo) im Q := by
  refine V.pop dX5_readsFactor_47 rfl ?_
  refine V.iconst (v := 1) dX5_readsFactor_48 (by decide) ?_
  exact V.zret rfl (by decide) dX5_readsFactor_49 hq
theorem bX5_readsFactor_50 {d : Nat} {b : Nat × Nat} {bo : Bool} {im : XI} {Q : Option Value → XS → XI → Prop} {l1 : Int32} {l2 : Int32} {l3 : Int32}  (kt : l1 < (5 : Int32) → V mX5_readsFactor d b 57 [some (.ref 28), some (.int l1), some (.int l2), some (.int l3), none] [] (SC bo) im Q) (kf : ¬ l1 < (5 : Int32) → V mX5_readsFactor d b 55 [some (.ref 28), some (.int l1), some (.int l2), some (.int l3), none] [] (SC bo) im Q) : V mX5_readsFactor d b 50 [some (.ref 28), some (.int l1), some (.int l2), some (.int l3), none] [] (SC bo) im Q := by
  refine V.iload_n dX5_readsFactor_50 rfl rfl ?_
  refine V.iconst (v := 5) dX5_readsFactor_51 (by decide) ?_
  refine V.icmp_lt (tgt := 57) dX5_readsFactor_52 (by decide) (fun h => ?_) (fun h => ?_)
  · exact kt h
  · exact kf h
theorem bX5_readsFactor_55 {d : Nat} {b : Nat × Nat} {bo : Bool} {im : XI} {Q : Option Value → XS → XI → Prop} {l1 : Int32} {l2 : Int32} {l3 : Int32}  (hq : Q (some (.int (0 : Int32))) (SC bo) im) : V mX5_readsFactor d b 55 [some (.ref 28), some (.int l1), some (.int l2), some (.int l3), none] [] (SC bo) im Q := by
  refine V.iconst (v := 0) dX5_readsFactor_55 (by decide) ?_
  exact V.zret rfl (by decide) dX5_readsFactor_56 hq
theorem bX5_readsFactor_57 {d : Nat} {b : Nat × Nat} {bo : Bool} {im : XI} {Q : Option Value → XS → XI → Prop} {l1 : Int32} {l2 : Int32} {l3 : Int32} {P : Int32 → XI → Prop}  (hs : SpI mX5_takes d [.ref 28, .int (33 : Int32)] (SC bo) im P) (k : ∀ x2 im2, P x2 im2 → V mX5_readsFactor (d + 1) b 63 [some (.ref 28), some (.int l1), some (.int l2), some (.int l3), none] [.int x2] (SC bo) im2 Q) : V mX5_readsFactor (d + 1) b 57 [some (.ref 28), some (.int l1), some (.int l2), some (.int l3), none] [] (SC bo) im Q := by
  refine V.aload_n dX5_readsFactor_57 rfl rfl ?_
  refine V.bipush (v := 33) dX5_readsFactor_58 (by decide) ?_
  refine V.cVI rfl vX5_takes lkX5_51 wX5_takes (ci := 5) rfl (by rfl) (As := [.int (33 : Int32)]) rfl rfl rfl dX5_readsFactor_60 hs (fun x2 im2 h2 => ?_)
  exact k x2 im2 h2
theorem bX5_readsFactor_63 {d : Nat} {b : Nat × Nat} {bo : Bool} {im : XI} {Q : Option Value → XS → XI → Prop} {l1 : Int32} {l2 : Int32} {l3 : Int32} {s0 : Int32}  (kt : s0 = 0 → V mX5_readsFactor d b 88 [some (.ref 28), some (.int l1), some (.int l2), some (.int l3), none] [] (SC bo) im Q) (kf : ¬ s0 = 0 → V mX5_readsFactor d b 66 [some (.ref 28), some (.int l1), some (.int l2), some (.int l3), none] [] (SC bo) im Q) : V mX5_readsFactor d b 63 [some (.ref 28), some (.int l1), some (.int l2), some (.int l3), none] [.int s0] (SC bo) im Q := by
  refine V.if_eq (tgt := 88) dX5_readsFactor_63 (by decide) (fun h => ?_) (fun h => ?_)
  · exact kt h
  · exact kf h
theorem bX5_readsFactor_66 {d : Nat} {b : Nat × Nat} {bo : Bool} {im : XI} {Q : Option Value → XS → XI → Prop} {l1 : Int32} {l2 : Int32} {l3 : Int32} {P : Int32 → XI → Prop}  (hs : SpI mX5_readsFactor d [.ref 28, .int (l1 + (1 : Int32))] (SC bo) im P) (k : ∀ x2 im2, P x2 im2 → V mX5_readsFactor (d + 1) b 73 [some (.ref 28), some (.int l1), some (.int l2), some (.int l3), none] [.int x2] (SC bo) im2 Q) : V mX5_readsFactor (d + 1) b 66 [some (.ref 28), some (.int l1), some (.int l2), some (.int l3), none] [] (SC bo) im Q := by
  refine V.aload_n dX5_readsFactor_66 rfl rfl ?_
  refine V.iload_n dX5_readsFactor_67 rfl rfl ?_
  refine V.iconst (v := 1) dX5_readsFactor_68 (by decide) ?_
  refine V.iadd dX5_readsFactor_69 ?_
  refine V.cVI rfl vX5_readsFactor lkX5_66 wX5_readsFactor (ci := 5) rfl (by rfl) (As := [.int (l1 + (1 : Int32))]) rfl rfl rfl dX5_readsFactor_70 hs (fun x2 im2 h2 => ?_)
  exact k x2 im2 h2
theorem bX5_readsFactor_73 {d : Nat} {b : Nat × Nat} {bo : Bool} {im : XI} {Q : Option Value → XS → XI → Prop} {l1 : Int32} {l2 : Int32} {l3 : Int32} {s0 : Int32} {P : Int32 → XI → Prop}  (hs : SpI mX6_add d [.ref 29, .int (-33 : Int32)] (SC bo) im P) (k : ∀ x2 im2, P x2 im2 → V mX5_readsFactor (d + 1) b 84 [some (.ref 28), some (.int l1), some (.int l2), some (.int l3), some (.int s0)] [.int x2] (SC bo) im2 Q) : V mX5_readsFactor (d + 1) b 73 [some (.ref 28), some (.int l1), some (.int l2), some (.int l3), none] [.int s0] (SC bo) im Q := by
  refine V.istore dX5_readsFactor_73 rfl rfl ?_
  refine V.aload_n dX5_readsFactor_75 rfl rfl ?_
  refine V.getR fX5_14 rfl (by rfl) (by rfl) dX5_readsFactor_76 ?_
  refine V.bipush (v := -33) dX5_readsFactor_79 (by decide) ?_
  refine V.cVI rfl vX6_add lkX5_54 wX6_add (ci := 6) rfl (by rfl) (As := [.int (-33 : Int32)]) rfl rfl rfl dX5_readsFactor_81 hs (fun x2 im2 h2 => ?_)
  exact k x2 im2 h2
theorem bX5_readsFactor_84 {d : Nat} {b : Nat × Nat} {bo : Bool} {im : XI} {Q : Option Value → XS → XI → Prop} {l1 : Int32} {l2 : Int32} {l3 : Int32} {l4 : Int32} {s0 : Int32} (g0 : l4 = 0 ∨ l4 = 1) (hq : Q (some (.int l4)) (SC bo) im) : V mX5_readsFactor d b 84 [some (.ref 28), some (.int l1), some (.int l2), some (.int l3), some (.int l4)] [.int s0] (SC bo) im Q := by
  refine V.pop dX5_readsFactor_84 rfl ?_
  refine V.iload dX5_readsFactor_85 rfl ?_
  exact V.zret rfl g0 dX5_readsFactor_87 hq
theorem bX5_readsFactor_88 {d : Nat} {b : Nat × Nat} {bo : Bool} {im : XI} {Q : Option Value → XS → XI → Prop} {l1 : Int32} {l2 : Int32} {l3 : Int32} {P : Int32 → XI → Prop}  (hs : SpI mX5_takes d [.ref 28, .int (40 : Int32)] (SC bo) im P) (k : ∀ x2 im2, P x2 im2 → V mX5_readsFactor (d + 1) b 94 [some (.ref 28), some (.int l1), some (.int l2), some (.int l3), none] [.int x2] (SC bo) im2 Q) : V mX5_readsFactor (d + 1) b 88 [some (.ref 28), some (.int l1), some (.int l2), some (.int l3), none] [] (SC bo) im Q := by
  refine V.aload_n dX5_readsFactor_88 rfl rfl ?_
  refine V.bipush (v := 40) dX5_readsFactor_89 (by decide) ?_
  refine V.cVI rfl vX5_takes lkX5_51 wX5_takes (ci := 5) rfl (by rfl) (As := [.int (40 : Int32)]) rfl rfl rfl dX5_readsFactor_91 hs (fun x2 im2 h2 => ?_)
  exact k x2 im2 h2
theorem bX5_readsFactor_94 {d : Nat} {b : Nat × Nat} {bo : Bool} {im : XI} {Q : Option Value → XS → XI → Prop} {l1 : Int32} {l2 : Int32} {l3 : Int32} {s0 : Int32}  (kt : s0 = 0 → V mX5_readsFactor d b 120 [some (.ref 28), some (.int l1), some (.int l2), some (.int l3), none] [] (SC bo) im Q) (kf : ¬ s0 = 0 → V mX5_readsFactor d b 97 [some (.ref 28), some (.int l1), some (.int l2), some (.int l3), none] [] (SC bo) im Q) : V mX5_readsFactor d b 94 [some (.ref 28), some (.int l1), some (.int l2), some (.int l3), none] [.int s0] (SC bo) im Q := by
  refine V.if_eq (tgt := 120) dX5_readsFactor_94 (by decide) (fun h => ?_) (fun h => ?_)
  · exact kt h
  · exact kf h
theorem bX5_readsFactor_97 {d : Nat} {b : Nat × Nat} {bo : Bool} {im : XI} {Q : Option Value → XS → XI → Prop} {l1 : Int32} {l2 : Int32} {l3 : Int32} {P : Int32 → XI → Prop}  (hs : SpI mX5_readsAny d [.ref 28, .int (l1 + (1 : Int32))] (SC bo) im P) (k : ∀ x2 im2, P x2 im2 → V mX5_readsFactor (d + 1) b 104 [some (.ref 28), some (.int l1), some (.int l2), some (.int l3), none] [.int x2] (SC bo) im2 Q) : V mX5_readsFactor (d + 1) b 97 [some (.ref 28), some (.int l1), some (.int l2), some (.int l3), none] [] (SC bo) im Q := by
  refine V.aload_n dX5_readsFactor_97 rfl rfl ?_
  refine V.iload_n dX5_readsFactor_98 rfl rfl ?_
  refine V.iconst (v := 1) dX5_readsFactor_99 (by decide) ?_
  refine V.iadd dX5_readsFactor_100 ?_
  refine V.cVI rfl vX5_readsAny lkX5_33 wX5_readsAny (ci := 5) rfl (by rfl) (As := [.int (l1 + (1 : Int32))]) rfl rfl rfl dX5_readsFactor_101 hs (fun x2 im2 h2 => ?_)
  exact k x2 im2 h2
theorem bX5_readsFactor_104 {d : Nat} {b : Nat × Nat} {bo : Bool} {im : XI} {Q : Option Value → XS → XI → Prop} {l1 : Int32} {l2 : Int32} {l3 : Int32} {s0 : Int32}  (kt : s0 = 0 → V mX5_readsFactor d b 120 [some (.ref 28), some (.int l1), some (.int l2), some (.int l3), none] [] (SC bo) im Q) (kf : ¬ s0 = 0 → V mX5_readsFactor d b 107 [some (.ref 28), some (.int l1), some (.int l2), some (.int l3), none] [] (SC bo) im Q) : V mX5_readsFactor d b 104 [some (.ref 28), some (.int l1), some (.int l2), some (.int l3), none] [.int s0] (SC bo) im Q := by
  refine V.if_eq (tgt := 120) dX5_readsFactor_104 (by decide) (fun h => ?_) (fun h => ?_)
  · exact kt h
  · exact kf h
theorem bX5_readsFactor_107 {d : Nat} {b : Nat × Nat} {bo : Bool} {im : XI} {Q : Option Value → XS → XI → Prop} {l1 : Int32} {l2 : Int32} {l3 : Int32} {P : Int32 → XI → Prop}  (hs : SpI mX5_takes d [.ref 28, .int (41 : Int32)] (SC bo) im P) (k : ∀ x2 im2, P x2 im2 → V mX5_readsFactor (d + 1) b 113 [some (.ref 28), some (.int l1), some (.int l2), some (.int l3), none] [.int x2] (SC bo) im2 Q) : V mX5_readsFactor (d + 1) b 107 [some (.ref 28), some (.int l1), some (.int l2), some (.int l3), none] [] (SC bo) im Q := by
  refine V.aload_n dX5_readsFactor_107 rfl rfl ?_
  refine V.bipush (v := 41) dX5_readsFactor_108 (by decide) ?_
  refine V.cVI rfl vX5_takes lkX5_51 wX5_takes (ci := 5) rfl (by rfl) (As := [.int (41 : Int32)]) rfl rfl rfl dX5_readsFactor_110 hs (fun x2 im2 h2 => ?_)
  exact k x2 im2 h2
theorem bX5_readsFactor_113 {d : Nat} {b : Nat × Nat} {bo : Bool} {im : XI} {Q : Option Value → XS → XI → Prop} {l1 : Int32} {l2 : Int32} {l3 : Int32} {s0 : Int32}  (kt : s0 = 0 → V mX5_readsFactor d b 120 [some (.ref 28), some (.int l1), some (.int l2), some (.int l3), none] [] (SC bo) im Q) (kf : ¬ s0 = 0 → V mX5_readsFactor d b 116 [some (.ref 28), some (.int l1), some (.int l2), some (.int l3), none] [] (SC bo) im Q) : V mX5_readsFactor d b 113 [some (.ref 28), some (.int l1), some (.int l2), some (.int l3), none] [.int s0] (SC bo) im Q := by
  refine V.if_eq (tgt := 120) dX5_readsFactor_113 (by decide) (fun h => ?_) (fun h => ?_)
  · exact kt h
  · exact kf h
theorem bX5_readsFactor_116 {d : Nat} {b : Nat × Nat} {bo : Bool} {im : XI} {Q : Option Value → XS → XI → Prop} {l1 : Int32} {l2 : Int32} {l3 : Int32}  (k : V mX5_readsFactor d b 121 [some (.ref 28), some (.int l1), some (.int l2), some (.int l3), none] [.int (1 : Int32)] (SC bo) im Q) : V mX5_readsFactor d b 116 [some (.ref 28), some (.int l1), some (.int l2), some (.int l3), none] [] (SC bo) im Q := by
  refine V.iconst (v := 1) dX5_readsFactor_116 (by decide) ?_
  refine V.goto (tgt := 121) dX5_readsFactor_117 (by decide) ?_
  exact k
theorem bX5_readsFactor_120 {d : Nat} {b : Nat × Nat} {bo : Bool} {im : XI} {Q : Option Value → XS → XI → Prop} {l1 : Int32} {l2 : Int32} {l3 : Int32}  (k : V mX5_readsFactor d b 121 [some (.ref 28), some (.int l1), some (.int l2), some (.int l3), none] [.int (0 : Int32)] (SC bo) im Q) : V mX5_readsFactor d b 120 [some (.ref 28), some (.int l1), some (.int l2), some (.int l3), none] [] (SC bo) im Q := by
  refine V.iconst (v := 0) dX5_readsFactor_120 (by decide) ?_
  exact k
theorem bX5_readsFactor_121 {d : Nat} {b : Nat × Nat} {bo : Bool} {im : XI} {Q : Option Value → XS → XI → Prop} {l1 : Int32} {l2 : Int32} {l3 : Int32} {s0 : Int32} (g0 : s0 = 0 ∨ s0 = 1) (hq : Q (some (.int s0)) (SC bo) im) : V mX5_readsFactor d b 121 [some (.ref 28), some (.int l1), some (.int l2), some (.int l3), none] [.int s0] (SC bo) im Q := by
  exact V.zret rfl g0 dX5_readsFactor_121 hq
theorem bX5_readNumber_0 {d : Nat} {b : Nat × Nat} {bo : Bool} {im : XI} {Q : Option Value → XS → XI → Prop}   (k : V mX5_readNumber d b 4 [some (.ref 28), some (.int (0 : Int32)), some (.int (0 : Int32))] [] (SC bo) im Q) : V mX5_readNumber d b 0 [some (.ref 28), none, none] [] (SC bo) im Q := by
  refine V.iconst (v := 0) dX5_readNumber_0 (by decide) ?_
  refine V.istore_n dX5_readNumber_1 rfl rfl rfl ?_
  refine V.iconst (v := 0) dX5_readNumber_2 (by decide) ?_
  refine V.istore_n dX5_readNumber_3 rfl rfl rfl ?_
  exact k
theorem bX5_readNumber_4 {d : Nat} {b : Nat × Nat} {bo : Bool} {im : XI} {Q : Option Value → XS → XI → Prop} {l1 : Int32} {l2 : Int32}  (kt : (4 : Int32) ≤ l2 → V mX5_readNumber d b 48 [some (.ref 28), some (.int l1), some (.int l2)] [] (SC bo) im Q) (kf : ¬ (4 : Int32) ≤ l2 → V mX5_readNumber d b 9 [some (.ref 28), some (.int l1), some (.int l2)] [] (SC bo) im Q) : V mX5_readNumber d b 4 [some (.ref 28), some (.int l1), some (.int l2)] [] (SC bo) im Q := by
  refine V.iload_n dX5_readNumber_4 rfl rfl ?_
  refine V.iconst (v := 4) dX5_readNumber_5 (by decide) ?_
  refine V.icmp_ge (tgt := 48) dX5_readNumber_6 (by decide) (fun h => ?_) (fun h => ?_)
  · exact kt h
  · exact kf h
theorem bX5_readNumber_9 {d : Nat} {b : Nat × Nat} {bo : Bool} {im : XI} {Q : Option Value → XS → XI → Prop} {l1 : Int32} {l2 : Int32} {P : Int32 → XI → Prop}  (hs : SpI mX5_next d [.ref 28] (SC bo) im P) (k : ∀ x2 im2, P x2 im2 → V mX5_readNumber (d + 1) b 13 [some (.ref 28), some (.int l1), some (.int l2)] [.int x2] (SC bo) im2 Q) : V mX5_readNumber (d + 1) b 9 [some (.ref 28), some (.int l1), some (.int l2)] [] (SC bo) im Q := by
  refine V.aload_n dX5_readNumber_9 rfl rfl ?_
  refine V.cVI rfl vX5_next lkX5_45 wX5_next (ci := 5) rfl (by rfl) (As := []) rfl rfl rfl dX5_readNumber_10 hs (fun x2 im2 h2 => ?_)
  exact k x2 im2 h2
theorem bX5_readNumber_13 {d : Nat} {b : Nat × Nat} {bo : Bool} {im : XI} {Q : Option Value → XS → XI → Prop} {l1 : Int32} {l2 : Int32} {s0 : Int32} {P : Int32 → XI → Prop}  (hs : SpI mX5_isDigit d [.int s0] (SC bo) im P) (k : ∀ x2 im2, P x2 im2 → V mX5_readNumber (d + 1) b 16 [some (.ref 28), some (.int l1), some (.int l2)] [.int x2] (SC bo) im2 Q) : V mX5_readNumber (d + 1) b 13 [some (.ref 28), some (.int l1), some (.int l2)] [.int s0] (SC bo) im Q := by
  refine V.cSI rfl vX5_isDigit lkX5_69 sX5_isDigit (As := [.int s0]) rfl rfl rfl dX5_readNumber_13 hs (fun x2 im2 h2 => ?_)
  exact k x2 im2 h2
theorem bX5_readNumber_16 {d : Nat} {b : Nat × Nat} {bo : Bool} {im : XI} {Q : Option Value → XS → XI → Prop} {l1 : Int32} {l2 : Int32} {s0 : Int32}  (kt : s0 = 0 → V mX5_readNumber d b 48 [some (.ref 28), some (.int l1), some (.int l2)] [] (SC bo) im Q) (kf : ¬ s0 = 0 → V mX5_readNumber d b 19 [some (.ref 28), some (.int l1), some (.int l2)] [] (SC bo) im Q) : V mX5_readNumber d b 16 [some (.ref 28), some (.int l1), some (.int l2)] [.int s0] (SC bo) im Q := by
  refine V.if_eq (tgt := 48) dX5_readNumber_16 (by decide) (fun h => ?_) (fun h => ?_)
  · exact kt h
  · exact kf h
theorem bX5_readNumber_19 {d : Nat} {b : Nat × Nat} {bo : Bool} {im : XI} {Q : Option Value → XS → XI → Prop} {l1 : Int32} {l2 : Int32} {P : Int32 → XI → Prop}  (hs : SpI mX5_next d [.ref 28] (SC bo) im P) (k : ∀ x2 im2, P x2 im2 → V mX5_readNumber (d + 1) b 27 [some (.ref 28), some (.int l1), some (.int l2)] [.int x2, .int (l1 * (10 : Int32))] (SC bo) im2 Q) : V mX5_readNumber (d + 1) b 19 [some (.ref 28), some (.int l1), some (.int l2)] [] (SC bo) im Q := by
  refine V.iload_n dX5_readNumber_19 rfl rfl ?_
  refine V.bipush (v := 10) dX5_readNumber_20 (by decide) ?_
  refine V.imul dX5_readNumber_22 ?_
  refine V.aload_n dX5_readNumber_23 rfl rfl ?_
  refine V.cVI rfl vX5_next lkX5_45 wX5_next (ci := 5) rfl (by rfl) (As := []) rfl rfl rfl dX5_readNumber_24 hs (fun x2 im2 h2 => ?_)
  exact k x2 im2 h2
theorem bX5_readNumber_27 {d : Nat} {b : Nat × Nat} {bo : Bool} {im : XI} {Q : Option Value → XS → XI → Prop} {l1 : Int32} {l2 : Int32} {s0 : Int32} {s1 : Int32}  (k : V mX5_readNumber d b 4 [some (.ref 28), some (.int ((s0 + s1) - (48 : Int32))), some (.int (l2 + (1 : Int32)))] [] (SC bo) (xup im 28 3 ((im 28 3) + (1 : Int32))) Q) : V mX5_readNumber d b 27 [some (.ref 28), some (.int l1), some (.int l2)] [.int s1, .int s0] (SC bo) im Q := by
  refine V.iadd dX5_readNumber_27 ?_
  refine V.bipush (v := 48) dX5_readNumber_28 (by decide) ?_
  refine V.isub dX5_readNumber_30 ?_
  refine V.istore_n dX5_readNumber_31 rfl rfl rfl ?_
  refine V.aload_n dX5_readNumber_32 rfl rfl ?_
  refine V.dup dX5_readNumber_33 rfl ?_
  refine V.getI fX5_27 rfl (by rfl) dX5_readNumber_34 ?_
  refine V.iconst (v := 1) dX5_readNumber_37 (by decide) ?_
  refine V.iadd dX5_readNumber_38 ?_
  refine V.putI fX5_27 (fun h => by cases h) rfl (by rfl) dX5_readNumber_39 ?_
  refine V.iinc (v := (l2 + (1 : Int32))) dX5_readNumber_42 rfl rfl rfl ?_
  refine V.goto (tgt := 4) dX5_readNumber_45 (by decide) ?_
  exact k
theorem bX5_readNumber_48 {d : Nat} {b : Nat × Nat} {bo : Bool} {im : XI} {Q : Option Value → XS → XI → Prop} {l1 : Int32} {l2 : Int32} {P : Int32 → XI → Prop}  (hs : SpI mX6_add d [.ref 29, .int l1] (SC bo) im P) (k : ∀ x2 im2, P x2 im2 → V mX5_readNumber (d + 1) b 56 [some (.ref 28), some (.int l1), some (.int l2)] [.int x2] (SC bo) im2 Q) : V mX5_readNumber (d + 1) b 48 [some (.ref 28), some (.int l1), some (.int l2)] [] (SC bo) im Q := by
  refine V.aload_n dX5_readNumber_48 rfl rfl ?_
  refine V.getR fX5_14 rfl (by rfl) (by rfl) dX5_readNumber_49 ?_
  refine V.iload_n dX5_readNumber_52 rfl rfl ?_
  refine V.cVI rfl vX6_add lkX5_54 wX6_add (ci := 6) rfl (by rfl) (As := [.int l1]) rfl rfl rfl dX5_readNumber_53 hs (fun x2 im2 h2 => ?_)
  exact k x2 im2 h2
theorem bX5_readNumber_56 {d : Nat} {b : Nat × Nat} {bo : Bool} {im : XI} {Q : Option Value → XS → XI → Prop} {l1 : Int32} {l2 : Int32} {s0 : Int32}  (hq : Q none (SC bo) im) : V mX5_readNumber d b 56 [some (.ref 28), some (.int l1), some (.int l2)] [.int s0] (SC bo) im Q := by
  refine V.pop dX5_readNumber_56 rfl ?_
  exact V.vret rfl dX5_readNumber_57 hq
theorem bX5_isDigit_0 {d : Nat} {b : Nat × Nat} {S : XS} {im : XI} {Q : Option Value → XS → XI → Prop} {l0 : Int32}  (kt : l0 < (48 : Int32) → V mX5_isDigit d b 16 [some (.int l0)] [] S im Q) (kf : ¬ l0 < (48 : Int32) → V mX5_isDigit d b 6 [some (.int l0)] [] S im Q) : V mX5_isDigit d b 0 [some (.int l0)] [] S im Q := by
  refine V.iload_n dX5_isDigit_0 rfl rfl ?_
  refine V.bipush (v := 48) dX5_isDigit_1 (by decide) ?_
  refine V.icmp_lt (tgt := 16) dX5_isDigit_3 (by decide) (fun h => ?_) (fun h => ?_)
  · exact kt h
  · exact kf h
theorem bX5_isDigit_6 {d : Nat} {b : Nat × Nat} {S : XS} {im : XI} {Q : Option Value → XS → XI → Prop} {l0 : Int32}  (kt : (57 : Int32) < l0 → V mX5_isDigit d b 16 [some (.int l0)] [] S im Q) (kf : ¬ (57 : Int32) < l0 → V mX5_isDigit d b 12 [some (.int l0)] [] S im Q) : V mX5_isDigit d b 6 [some (.int l0)] [] S im Q := by
  refine V.iload_n dX5_isDigit_6 rfl rfl ?_
  refine V.bipush (v := 57) dX5_isDigit_7 (by decide) ?_
  refine V.icmp_gt (tgt := 16) dX5_isDigit_9 (by decide) (fun h => ?_) (fun h => ?_)
  · exact kt h
  · exact kf h
theorem bX5_isDigit_12 {d : Nat} {b : Nat × Nat} {S : XS} {im : XI} {Q : Option Value → XS → XI → Prop} {l0 : Int32}  (k : V mX5_isDigit d b 17 [some (.int l0)] [.int (1 : Int32)] S im Q) : V mX5_isDigit d b 12 [some (.int l0)] [] S im Q := by
  refine V.iconst (v := 1) dX5_isDigit_12 (by decide) ?_
  refine V.goto (tgt := 17) dX5_isDigit_13 (by decide) ?_
  exact k
theorem bX5_isDigit_16 {d : Nat} {b : Nat × Nat} {S : XS} {im : XI} {Q : Option Value → XS → XI → Prop} {l0 : Int32}  (k : V mX5_isDigit d b 17 [some (.int l0)] [.int (0 : Int32)] S im Q) : V mX5_isDigit d b 16 [some (.int l0)] [] S im Q := by
  refine V.iconst (v := 0) dX5_isDigit_16 (by decide) ?_
  exact k
theorem bX5_isDigit_17 {d : Nat} {b : Nat × Nat} {S : XS} {im : XI} {Q : Option Value → XS → XI → Prop} {l0 : Int32} {s0 : Int32} (g0 : s0 = 0 ∨ s0 = 1) (hq : Q (some (.int s0)) S im) : V mX5_isDigit d b 17 [some (.int l0)] [.int s0] S im Q := by
  exact V.zret rfl g0 dX5_isDigit_17 hq
theorem bX5_nameOf_0 {d : Nat} {b : Nat × Nat} {bo : Bool} {im : XI} {Q : Option Value → XS → XI → Prop} {l1 : Int32}  (k : V mX5_nameOf d b 2 [some (.ref 28), some (.int l1), some (.int (0 : Int32)), none] [] (SC bo) im Q) : V mX5_nameOf d b 0 [some (.ref 28), some (.int l1), none, none] [] (SC bo) im Q := by
  refine V.iconst (v := 0) dX5_nameOf_0 (by decide) ?_
  refine V.istore_n dX5_nameOf_1 rfl rfl rfl ?_
  exact k
theorem bX5_nameOf_2 {d : Nat} {b : Nat × Nat} {bo : Bool} {im : XI} {Q : Option Value → XS → XI → Prop} {l1 : Int32} {l2 : Int32}  (kt : (3 : Int32) ≤ l2 → V mX5_nameOf d b 47 [some (.ref 28), some (.int l1), some (.int l2), none] [] (SC bo) im Q) (kf : ¬ (3 : Int32) ≤ l2 → V mX5_nameOf d b 7 [some (.ref 28), some (.int l1), some (.int l2), none] [] (SC bo) im Q) : V mX5_nameOf d b 2 [some (.ref 28), some (.int l1), some (.int l2), none] [] (SC bo) im Q := by
  refine V.iload_n dX5_nameOf_2 rfl rfl ?_
  refine V.iconst (v := 3) dX5_nameOf_3 (by decide) ?_
  refine V.icmp_ge (tgt := 47) dX5_nameOf_4 (by decide) (fun h => ?_) (fun h => ?_)
  · exact kt h
  · exact kf h
theorem bX5_nameOf_7 {d : Nat} {b : Nat × Nat} {bo : Bool} {im : XI} {Q : Option Value → XS → XI → Prop} {l1 : Int32} {l2 : Int32}  (kt : (((im 28 2) * (3 : Int32)) + l2) < 0 → V mX5_nameOf d b 41 [some (.ref 28), some (.int l1), some (.int l2), some (.int (((im 28 2) * (3 : Int32)) + l2))] [] (SC bo) im Q) (kf : ¬ (((im 28 2) * (3 : Int32)) + l2) < 0 → V mX5_nameOf d b 20 [some (.ref 28), some (.int l1), some (.int l2), some (.int (((im 28 2) * (3 : Int32)) + l2))] [] (SC bo) im Q) : V mX5_nameOf d b 7 [some (.ref 28), some (.int l1), some (.int l2), none] [] (SC bo) im Q := by
  refine V.aload_n dX5_nameOf_7 rfl rfl ?_
  refine V.getI fX5_23 rfl (by rfl) dX5_nameOf_8 ?_
  refine V.iconst (v := 3) dX5_nameOf_11 (by decide) ?_
  refine V.imul dX5_nameOf_12 ?_
  refine V.iload_n dX5_nameOf_13 rfl rfl ?_
  refine V.iadd dX5_nameOf_14 ?_
  refine V.istore_n dX5_nameOf_15 rfl rfl rfl ?_
  refine V.iload_n dX5_nameOf_16 rfl rfl ?_
  refine V.if_lt (tgt := 41) dX5_nameOf_17 (by decide) (fun h => ?_) (fun h => ?_)
  · exact kt h
  · exact kf h
theorem bX5_nameOf_20 {d : Nat} {b : Nat × Nat} {bo : Bool} {im : XI} {Q : Option Value → XS → XI → Prop} {l1 : Int32} {l2 : Int32} {l3 : Int32}  (kt : (6 : Int32) ≤ l3 → V mX5_nameOf d b 41 [some (.ref 28), some (.int l1), some (.int l2), some (.int l3)] [] (SC bo) im Q) (kf : ¬ (6 : Int32) ≤ l3 → V mX5_nameOf d b 28 [some (.ref 28), some (.int l1), some (.int l2), some (.int l3)] [] (SC bo) im Q) : V mX5_nameOf d b 20 [some (.ref 28), some (.int l1), some (.int l2), some (.int l3)] [] (SC bo) im Q := by
  refine V.iload_n dX5_nameOf_20 rfl rfl ?_
  refine V.names xnam dX5_nameOf_21 ?_
  refine V.nlen dX5_nameOf_24 ?_
  refine V.icmp_ge (tgt := 41) dX5_nameOf_25 (by decide) (fun h => ?_) (fun h => ?_)
  · exact kt h
  · exact kf h
theorem bX5_nameOf_28 {d : Nat} {b : Nat × Nat} {bo : Bool} {im : XI} {Q : Option Value → XS → XI → Prop} {l1 : Int32} {l2 : Int32} {l3 : Int32} {i1 : Nat} (g0 : l3 = nI i1) (g1 : i1 < 6) (kt : ¬ (nms i1) = l1 → V mX5_nameOf d b 41 [some (.ref 28), some (.int l1), some (.int l2), some (.int l3)] [] (SC bo) im Q) (kf : (nms i1) = l1 → V mX5_nameOf d b 37 [some (.ref 28), some (.int l1), some (.int l2), some (.int l3)] [] (SC bo) im Q) : V mX5_nameOf d b 28 [some (.ref 28), some (.int l1), some (.int l2), some (.int l3)] [] (SC bo) im Q := by
  refine V.names xnam dX5_nameOf_28 ?_
  refine V.iload_n dX5_nameOf_31 rfl rfl ?_
  refine V.nald (i := i1) g0 g1 dX5_nameOf_32 ?_
  refine V.iload_n dX5_nameOf_33 rfl rfl ?_
  refine V.icmp_ne (tgt := 41) dX5_nameOf_34 (by decide) (fun h => ?_) (fun h => ?_)
  · exact kt h
  · exact kf h
theorem bX5_nameOf_37 {d : Nat} {b : Nat × Nat} {bo : Bool} {im : XI} {Q : Option Value → XS → XI → Prop} {l1 : Int32} {l2 : Int32} {l3 : Int32}  (hq : Q (some (.int (l2 + (1 : Int32)))) (SC bo) im) : V mX5_nameOf d b 37 [some (.ref 28), some (.int l1), some (.int l2), some (.int l3)] [] (SC bo) im Q := by
  refine V.iload_n dX5_nameOf_37 rfl rfl ?_
  refine V.iconst (v := 1) dX5_nameOf_38 (by decide) ?_
  refine V.iadd dX5_nameOf_39 ?_
  exact V.iret rfl dX5_nameOf_40 hq
theorem bX5_nameOf_41 {d : Nat} {b : Nat × Nat} {bo : Bool} {im : XI} {Q : Option Value → XS → XI → Prop} {l1 : Int32} {l2 : Int32} {l3 : Int32}  (k : V mX5_nameOf d b 2 [some (.ref 28), some (.int l1), some (.int (l2 + (1 : Int32))), none] [] (SC bo) im Q) : V mX5_nameOf d b 41 [some (.ref 28), some (.int l1), some (.int l2), some (.int l3)] [] (SC bo) im Q := by
  refine V.iinc (v := (l2 + (1 : Int32))) dX5_nameOf_41 rfl rfl rfl ?_
  refine V.goto (tgt := 2) dX5_nameOf_44 (by decide) ?_
  exact V.weakm [true, true, true, false] rfl (k)
theorem bX5_nameOf_47 {d : Nat} {b : Nat × Nat} {bo : Bool} {im : XI} {Q : Option Value → XS → XI → Prop} {l1 : Int32} {l2 : Int32}  (hq : Q (some (.int (0 : Int32))) (SC bo) im) : V mX5_nameOf d b 47 [some (.ref 28), some (.int l1), some (.int l2), none] [] (SC bo) im Q := by
  refine V.iconst (v := 0) dX5_nameOf_47 (by decide) ?_
  exact V.iret rfl dX5_nameOf_48 hq

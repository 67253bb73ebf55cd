theorem bX3_init_0 {d : Nat} {b : Nat × Nat} {S : XS} {im : XI} {Q : Option Value → XS → XI → Prop} {l0 : Nat} {l1 : Int32}  (k : V mX3_init (d + 1) b 4 [some (.ref l0), some (.int l1)] [] S im Q) : V mX3_init (d + 1) b 0 [some (.ref l0), some (.int l1)] [] S im Q := by
  refine V.aload_n dX3_init_0 rfl rfl ?_
  refine V.objInit rfl lkX3_3 xoi_in xoi_code rfl dX3_init_1 ?_
  exact k
theorem bX3_init_4 {d : Nat} {b : Nat × Nat} {S : XS} {im : XI} {Q : Option Value → XS → XI → Prop} {l0 : Nat} {l1 : Int32} {b1 : Nat × Nat} {P : XS → XI → Prop} {bc be : Nat × Nat} (g0 : 1 + b1.1 ≤ b.1 ∧ 2 + b1.2 ≤ b.2) (hs : SpC mX6_init d bc [.ref S.1.length, .int (60 : Int32)] (xpush S (.inl 6)) (xz im S.1.length) P) (hbud : bc.1 + be.1 ≤ b1.1 ∧ bc.2 + be.2 ≤ b1.2) (hP : ∀ S2 im2, P S2 im2 → S2.1.length = ((xpush S (.inl 6))).1.length + bc.1) (k : ∀ S2 im2, P S2 im2 → V mX3_init (d + 1) be 14 [some (.ref l0), some (.int l1)] [.ref S.1.length, .ref l0] S2 im2 Q) : V mX3_init (d + 1) b 4 [some (.ref l0), some (.int l1)] [] S im Q := by
  refine V.aload_n dX3_init_4 rfl rfl ?_
  refine V.new (ci := 6) rfl nwX3_9.1 nwX3_9.2.1 nwX3_9.2.2 g0 dX3_init_5 ?_
  refine V.dup dX3_init_8 rfl ?_
  refine V.bipush (v := 60) dX3_init_9 (by decide) ?_
  refine V.cC rfl vX6_init lkX3_11 wX6_init rfl rfl (As := [.int (60 : Int32)]) rfl rfl rfl dX3_init_11 hs hbud hP (fun S2 im2 h2 => ?_)
  exact k S2 im2 h2
theorem bX3_init_14 {d : Nat} {b : Nat × Nat} {S : XS} {im : XI} {Q : Option Value → XS → XI → Prop} {l0 : Nat} {l1 : Int32} {s0 : Nat} {s1 : Nat} (g0 : S.1[s0]? = some (.inl 3)) (k : V mX3_init d b 17 [some (.ref l0), some (.int l1)] [] (S.1, xur S.2 s0 1 (some s1)) im Q) : V mX3_init d b 14 [some (.ref l0), some (.int l1)] [.ref s1, .ref s0] S im Q := by
  refine V.putR fX3_14 (fun _ => ⟨rfl, TX3, 4, rfl⟩) rfl rfl g0 dX3_init_14 ?_
  exact k
theorem bX3_init_17 {d : Nat} {b : Nat × Nat} {S : XS} {im : XI} {Q : Option Value → XS → XI → Prop} {l0 : Nat} {l1 : Int32} {b1 : Nat × Nat} (g0 : 1 + b1.1 ≤ b.1 ∧ 60 + b1.2 ≤ b.2) (g1 : ((xpush S (.inr (.inl 60)))).1[l0]? = some (.inl 3)) (k : V mX3_init d b1 25 [some (.ref l0), some (.int l1)] [] (((xpush S (.inr (.inl 60)))).1, xur ((xpush S (.inr (.inl 60)))).2 l0 2 (some S.1.length)) (xz im S.1.length) Q) : V mX3_init d b 17 [some (.ref l0), some (.int l1)] [] S im Q := by
  refine V.aload_n dX3_init_17 rfl rfl ?_
  refine V.bipush (v := 60) dX3_init_18 (by decide) ?_
  refine V.newa (n := 60) rfl rfl xai g0 dX3_init_20 ?_
  refine V.putR fX3_20 (fun _ => ⟨rfl, TX3, 4, rfl⟩) rfl rfl g1 dX3_init_22 ?_
  exact k
theorem bX3_init_25 {d : Nat} {b : Nat × Nat} {S : XS} {im : XI} {Q : Option Value → XS → XI → Prop} {l0 : Nat} {l1 : Int32} (g0 : S.1[l0]? = some (.inl 3)) (k : V mX3_init d b 30 [some (.ref l0), some (.int l1)] [] S (xup im l0 0 l1) Q) : V mX3_init d b 25 [some (.ref l0), some (.int l1)] [] S im Q := by
  refine V.aload_n dX3_init_25 rfl rfl ?_
  refine V.iload_n dX3_init_26 rfl rfl ?_
  refine V.putI fX3_24 (fun _ => ⟨rfl, TX3, 4, rfl⟩) rfl g0 dX3_init_27 ?_
  exact k
theorem bX3_init_30 {d : Nat} {b : Nat × Nat} {S : XS} {im : XI} {Q : Option Value → XS → XI → Prop} {l0 : Nat} {l1 : Int32}  (hq : Q none S im) : V mX3_init d b 30 [some (.ref l0), some (.int l1)] [] S im Q := by
  exact V.vret rfl dX3_init_30 hq
theorem bX3_give_0 {d : Nat} {b : Nat × Nat} {S : XS} {im : XI} {Q : Option Value → XS → XI → Prop} {l0 : Nat} {l1 : Nat} {r1 : Nat} {P : XI → Prop} (g0 : S.1[l0]? = some (.inl 3)) (g1 : S.2 l0 1 = some r1) (g2 : S.1[r1]? = some (.inl 6)) (hs : SpV mX6_beLike d [.ref r1, .ref l1] S im P) (k : ∀ im2, P im2 → V mX3_give (d + 1) b 8 [some (.ref l0), some (.ref l1)] [] S im2 Q) : V mX3_give (d + 1) b 0 [some (.ref l0), some (.ref l1)] [] S im Q := by
  refine V.aload_n dX3_give_0 rfl rfl ?_
  refine V.getR fX3_14 rfl g0 g1 dX3_give_1 ?_
  refine V.aload_n dX3_give_4 rfl rfl ?_
  refine V.cVV rfl vX6_beLike lkX3_28 wX6_beLike (ci := 6) rfl g2 (As := [.ref l1]) rfl rfl rfl dX3_give_5 hs (fun im2 h2 => ?_)
  exact k im2 h2
theorem bX3_give_8 {d : Nat} {b : Nat × Nat} {S : XS} {im : XI} {Q : Option Value → XS → XI → Prop} {l0 : Nat} {l1 : Nat} (g0 : S.1[l0]? = some (.inl 3)) (hq : Q none S (xup im l0 3 (1 : Int32))) : V mX3_give d b 8 [some (.ref l0), some (.ref l1)] [] S im Q := by
  refine V.aload_n dX3_give_8 rfl rfl ?_
  refine V.iconst (v := 1) dX3_give_9 (by decide) ?_
  refine V.putZ fX3_32 (fun h => by cases h) rfl (by decide) g0 dX3_give_10 ?_
  exact V.vret rfl dX3_give_13 hq
theorem bX3_beLike_0 {d : Nat} {b : Nat × Nat} {S : XS} {im : XI} {Q : Option Value → XS → XI → Prop} {l0 : Nat} {l1 : Nat} {r1 : Nat} {r2 : Nat} {P : XI → Prop} (g0 : S.1[l0]? = some (.inl 3)) (g1 : S.2 l0 1 = some r1) (g2 : S.1[l1]? = some (.inl 3)) (g3 : S.2 l1 1 = some r2) (g4 : S.1[r1]? = some (.inl 6)) (hs : SpV mX6_beLike d [.ref r1, .ref r2] S im P) (k : ∀ im2, P im2 → V mX3_beLike (d + 1) b 11 [some (.ref l0), some (.ref l1)] [] S im2 Q) : V mX3_beLike (d + 1) b 0 [some (.ref l0), some (.ref l1)] [] S im Q := by
  refine V.aload_n dX3_beLike_0 rfl rfl ?_
  refine V.getR fX3_14 rfl g0 g1 dX3_beLike_1 ?_
  refine V.aload_n dX3_beLike_4 rfl rfl ?_
  refine V.getR fX3_14 rfl g2 g3 dX3_beLike_5 ?_
  refine V.cVV rfl vX6_beLike lkX3_28 wX6_beLike (ci := 6) rfl g4 (As := [.ref r2]) rfl rfl rfl dX3_beLike_8 hs (fun im2 h2 => ?_)
  exact k im2 h2
theorem bX3_beLike_11 {d : Nat} {b : Nat × Nat} {S : XS} {im : XI} {Q : Option Value → XS → XI → Prop} {l0 : Nat} {l1 : Nat} (g0 : S.1[l1]? = some (.inl 3)) (g1 : S.1[l0]? = some (.inl 3)) (g2 : (im l1 3) = 0 ∨ (im l1 3) = 1) (hq : Q none S (xup im l0 3 (im l1 3))) : V mX3_beLike d b 11 [some (.ref l0), some (.ref l1)] [] S im Q := by
  refine V.aload_n dX3_beLike_11 rfl rfl ?_
  refine V.aload_n dX3_beLike_12 rfl rfl ?_
  refine V.getI fX3_32 rfl g0 dX3_beLike_13 ?_
  refine V.putZ fX3_32 (fun h => by cases h) rfl g2 g1 dX3_beLike_16 ?_
  exact V.vret rfl dX3_beLike_19 hq
theorem bX3_gives_0 {d : Nat} {b : Nat × Nat} {S : XS} {im : XI} {Q : Option Value → XS → XI → Prop} {l0 : Nat} {l1 : Int32} {l2 : Int32} {l3 : Int32} (g0 : S.1[l0]? = some (.inl 3)) (kt : ¬ (im l0 0) = 0 → V mX3_gives d b 30 [some (.ref l0), some (.int l1), some (.int l2), some (.int l3)] [] S im Q) (kf : (im l0 0) = 0 → V mX3_gives d b 7 [some (.ref l0), some (.int l1), some (.int l2), some (.int l3)] [] S im Q) : V mX3_gives d b 0 [some (.ref l0), some (.int l1), some (.int l2), some (.int l3)] [] S im Q := by
  refine V.aload_n dX3_gives_0 rfl rfl ?_
  refine V.getI fX3_24 rfl g0 dX3_gives_1 ?_
  refine V.if_ne (tgt := 30) dX3_gives_4 (by decide) (fun h => ?_) (fun h => ?_)
  · exact kt h
  · exact kf h
theorem bX3_gives_7 {d : Nat} {b : Nat × Nat} {S : XS} {im : XI} {Q : Option Value → XS → XI → Prop} {l0 : Nat} {l1 : Int32} {l2 : Int32} {l3 : Int32} (g0 : S.1[l0]? = some (.inl 3)) (kt : (im l0 3) = 0 → V mX3_gives d b 24 [some (.ref l0), some (.int l1), some (.int l2), some (.int l3)] [] S im Q) (kf : ¬ (im l0 3) = 0 → V mX3_gives d b 14 [some (.ref l0), some (.int l1), some (.int l2), some (.int l3)] [] S im Q) : V mX3_gives d b 7 [some (.ref l0), some (.int l1), some (.int l2), some (.int l3)] [] S im Q := by
  refine V.aload_n dX3_gives_7 rfl rfl ?_
  refine V.getI fX3_32 rfl g0 dX3_gives_8 ?_
  refine V.if_eq (tgt := 24) dX3_gives_11 (by decide) (fun h => ?_) (fun h => ?_)
  · exact kt h
  · exact kf h
theorem bX3_gives_14 {d : Nat} {b : Nat × Nat} {S : XS} {im : XI} {Q : Option Value → XS → XI → Prop} {l0 : Nat} {l1 : Int32} {l2 : Int32} {l3 : Int32} {P : Int32 → XI → Prop} (g0 : S.1[l0]? = some (.inl 3)) (hs : SpI mX3_worked d [.ref l0, .int l1, .int l2, .int l3] S im P) (k : ∀ x2 im2, P x2 im2 → V mX3_gives (d + 1) b 21 [some (.ref l0), some (.int l1), some (.int l2), some (.int l3)] [.int x2] S im2 Q) : V mX3_gives (d + 1) b 14 [some (.ref l0), some (.int l1), some (.int l2), some (.int l3)] [] S im Q := by
  refine V.aload_n dX3_gives_14 rfl rfl ?_
  refine V.iload_n dX3_gives_15 rfl rfl ?_
  refine V.iload_n dX3_gives_16 rfl rfl ?_
  refine V.iload_n dX3_gives_17 rfl rfl ?_
  refine V.cVI rfl vX3_worked lkX3_36 wX3_worked (ci := 3) rfl g0 (As := [.int l1, .int l2, .int l3]) rfl rfl rfl dX3_gives_18 hs (fun x2 im2 h2 => ?_)
  exact k x2 im2 h2
theorem bX3_gives_21 {d : Nat} {b : Nat × Nat} {S : XS} {im : XI} {Q : Option Value → XS → XI → Prop} {l0 : Nat} {l1 : Int32} {l2 : Int32} {l3 : Int32} {s0 : Int32}  (k : V mX3_gives d b 25 [some (.ref l0), some (.int l1), some (.int l2), some (.int l3)] [.int s0] S im Q) : V mX3_gives d b 21 [some (.ref l0), some (.int l1), some (.int l2), some (.int l3)] [.int s0] S im Q := by
  refine V.goto (tgt := 25) dX3_gives_21 (by decide) ?_
  exact k
theorem bX3_gives_24 {d : Nat} {b : Nat × Nat} {S : XS} {im : XI} {Q : Option Value → XS → XI → Prop} {l0 : Nat} {l1 : Int32} {l2 : Int32} {l3 : Int32}  (k : V mX3_gives d b 25 [some (.ref l0), some (.int l1), some (.int l2), some (.int l3)] [.int l2] S im Q) : V mX3_gives d b 24 [some (.ref l0), some (.int l1), some (.int l2), some (.int l3)] [] S im Q := by
  refine V.iload_n dX3_gives_24 rfl rfl ?_
  exact k
theorem bX3_gives_25 {d : Nat} {b : Nat × Nat} {S : XS} {im : XI} {Q : Option Value → XS → XI → Prop} {l0 : Nat} {l1 : Int32} {l2 : Int32} {l3 : Int32} {s0 : Int32} {P : Int32 → XI → Prop}  (hs : SpI mX3_held d [.int s0, .int (1 : Int32)] S im P) (k : ∀ x2 im2, P x2 im2 → V mX3_gives (d + 1) b 29 [some (.ref l0), some (.int l1), some (.int l2), some (.int l3)] [.int x2] S im2 Q) : V mX3_gives (d + 1) b 25 [some (.ref l0), some (.int l1), some (.int l2), some (.int l3)] [.int s0] S im Q := by
  refine V.iconst (v := 1) dX3_gives_25 (by decide) ?_
  refine V.cSI rfl vX3_held lkX3_40 sX3_held (As := [.int s0, .int (1 : Int32)]) rfl rfl rfl dX3_gives_26 hs (fun x2 im2 h2 => ?_)
  exact k x2 im2 h2
theorem bX3_gives_29 {d : Nat} {b : Nat × Nat} {S : XS} {im : XI} {Q : Option Value → XS → XI → Prop} {l0 : Nat} {l1 : Int32} {l2 : Int32} {l3 : Int32} {s0 : Int32}  (hq : Q (some (.int s0)) S im) : V mX3_gives d b 29 [some (.ref l0), some (.int l1), some (.int l2), some (.int l3)] [.int s0] S im Q := by
  exact V.iret rfl dX3_gives_29 hq
theorem bX3_gives_30 {d : Nat} {b : Nat × Nat} {S : XS} {im : XI} {Q : Option Value → XS → XI → Prop} {l0 : Nat} {l1 : Int32} {l2 : Int32} {l3 : Int32} (g0 : S.1[l0]? = some (.inl 3)) (kt : (im l0 3) = 0 → V mX3_gives d b 47 [some (.ref l0), some (.int l1), some (.int l2), some (.int l3)] [] S im Q) (kf : ¬ (im l0 3) = 0 → V mX3_gives d b 37 [some (.ref l0), some (.int l1), some (.int l2), some (.int l3)] [] S im Q) : V mX3_gives d b 30 [some (.ref l0), some (.int l1), some (.int l2), some (.int l3)] [] S im Q := by
  refine V.aload_n dX3_gives_30 rfl rfl ?_
  refine V.getI fX3_32 rfl g0 dX3_gives_31 ?_
  refine V.if_eq (tgt := 47) dX3_gives_34 (by decide) (fun h => ?_) (fun h => ?_)
  · exact kt h
  · exact kf h
theorem bX3_gives_37 {d : Nat} {b : Nat × Nat} {S : XS} {im : XI} {Q : Option Value → XS → XI → Prop} {l0 : Nat} {l1 : Int32} {l2 : Int32} {l3 : Int32} {P : Int32 → XI → Prop} (g0 : S.1[l0]? = some (.inl 3)) (hs : SpI mX3_worked d [.ref l0, .int l1, .int l2, .int l3] S im P) (k : ∀ x2 im2, P x2 im2 → V mX3_gives (d + 1) b 44 [some (.ref l0), some (.int l1), some (.int l2), some (.int l3)] [.int x2] S im2 Q) : V mX3_gives (d + 1) b 37 [some (.ref l0), some (.int l1), some (.int l2), some (.int l3)] [] S im Q := by
  refine V.aload_n dX3_gives_37 rfl rfl ?_
  refine V.iload_n dX3_gives_38 rfl rfl ?_
  refine V.iload_n dX3_gives_39 rfl rfl ?_
  refine V.iload_n dX3_gives_40 rfl rfl ?_
  refine V.cVI rfl vX3_worked lkX3_36 wX3_worked (ci := 3) rfl g0 (As := [.int l1, .int l2, .int l3]) rfl rfl rfl dX3_gives_41 hs (fun x2 im2 h2 => ?_)
  exact k x2 im2 h2
theorem bX3_gives_44 {d : Nat} {b : Nat × Nat} {S : XS} {im : XI} {Q : Option Value → XS → XI → Prop} {l0 : Nat} {l1 : Int32} {l2 : Int32} {l3 : Int32} {s0 : Int32}  (k : V mX3_gives d b 48 [some (.ref l0), some (.int l1), some (.int l2), some (.int l3)] [.int s0] S im Q) : V mX3_gives d b 44 [some (.ref l0), some (.int l1), some (.int l2), some (.int l3)] [.int s0] S im Q := by
  refine V.goto (tgt := 48) dX3_gives_44 (by decide) ?_
  exact k
theorem bX3_gives_47 {d : Nat} {b : Nat × Nat} {S : XS} {im : XI} {Q : Option Value → XS → XI → Prop} {l0 : Nat} {l1 : Int32} {l2 : Int32} {l3 : Int32}  (k : V mX3_gives d b 48 [some (.ref l0), some (.int l1), some (.int l2), some (.int l3)] [.int l1] S im Q) : V mX3_gives d b 47 [some (.ref l0), some (.int l1), some (.int l2), some (.int l3)] [] S im Q := by
  refine V.iload_n dX3_gives_47 rfl rfl ?_
  exact k
theorem bX3_gives_48 {d : Nat} {b : Nat × Nat} {S : XS} {im : XI} {Q : Option Value → XS → XI → Prop} {l0 : Nat} {l1 : Int32} {l2 : Int32} {l3 : Int32} {s0 : Int32} {P : Int32 → XI → Prop}  (hs : SpI mX3_held d [.int s0, .int (9 : Int32)] S im P) (k : ∀ x2 im2, P x2 im2 → V mX3_gives (d + 1) b 53 [some (.ref l0), some (.int l1), some (.int l2), some (.int l3)] [.int x2] S im2 Q) : V mX3_gives (d + 1) b 48 [some (.ref l0), some (.int l1), some (.int l2), some (.int l3)] [.int s0] S im Q := by
  refine V.bipush (v := 9) dX3_gives_48 (by decide) ?_
  refine V.cSI rfl vX3_held lkX3_40 sX3_held (As := [.int s0, .int (9 : Int32)]) rfl rfl rfl dX3_gives_50 hs (fun x2 im2 h2 => ?_)
  exact k x2 im2 h2
theorem bX3_gives_53 {d : Nat} {b : Nat × Nat} {S : XS} {im : XI} {Q : Option Value → XS → XI → Prop} {l0 : Nat} {l1 : Int32} {l2 : Int32} {l3 : Int32} {s0 : Int32}  (hq : Q (some (.int s0)) S im) : V mX3_gives d b 53 [some (.ref l0), some (.int l1), some (.int l2), some (.int l3)] [.int s0] S im Q := by
  exact V.iret rfl dX3_gives_53 hq
theorem bX3_held_0 {d : Nat} {b : Nat × Nat} {S : XS} {im : XI} {Q : Option Value → XS → XI → Prop} {l0 : Int32} {l1 : Int32} {P : Int32 → XI → Prop}  (hs : SpI mJ9_min_7cf53 d [.int l1, .int l0] S im P) (k : ∀ x2 im2, P x2 im2 → V mX3_held (d + 1) b 6 [some (.int l0), some (.int l1)] [.int x2, .int (0 : Int32)] S im2 Q) : V mX3_held (d + 1) b 0 [some (.int l0), some (.int l1)] [] S im Q := by
  refine V.iconst (v := 0) dX3_held_0 (by decide) ?_
  refine V.iload_n dX3_held_1 rfl rfl ?_
  refine V.iload_n dX3_held_2 rfl rfl ?_
  refine V.cSI rfl vJ9_min_7cf53 lkX3_44 sJ9_min_7cf53 (As := [.int l1, .int l0]) rfl rfl rfl dX3_held_3 hs (fun x2 im2 h2 => ?_)
  exact k x2 im2 h2
theorem bX3_held_6 {d : Nat} {b : Nat × Nat} {S : XS} {im : XI} {Q : Option Value → XS → XI → Prop} {l0 : Int32} {l1 : Int32} {s0 : Int32} {s1 : Int32} {P : Int32 → XI → Prop}  (hs : SpI mJ9_max_7cf53 d [.int s0, .int s1] S im P) (k : ∀ x2 im2, P x2 im2 → V mX3_held (d + 1) b 9 [some (.int l0), some (.int l1)] [.int x2] S im2 Q) : V mX3_held (d + 1) b 6 [some (.int l0), some (.int l1)] [.int s1, .int s0] S im Q := by
  refine V.cSI rfl vJ9_max_7cf53 lkX3_49 sJ9_max_7cf53 (As := [.int s0, .int s1]) rfl rfl rfl dX3_held_6 hs (fun x2 im2 h2 => ?_)
  exact k x2 im2 h2
theorem bX3_held_9 {d : Nat} {b : Nat × Nat} {S : XS} {im : XI} {Q : Option Value → XS → XI → Prop} {l0 : Int32} {l1 : Int32} {s0 : Int32}  (hq : Q (some (.int s0)) S im) : V mX3_held d b 9 [some (.int l0), some (.int l1)] [.int s0] S im Q := by
  exact V.iret rfl dX3_held_9 hq
theorem bX3_worked_0 {d : Nat} {b : Nat × Nat} {S : XS} {im : XI} {Q : Option Value → XS → XI → Prop} {l0 : Nat} {l1 : Int32} {l2 : Int32} {l3 : Int32}  (k : V mX3_worked d b 6 [some (.ref l0), some (.int l1), some (.int l2), some (.int l3), some (.int (0 : Int32)), some (.int (0 : Int32)), none] [] S im Q) : V mX3_worked d b 0 [some (.ref l0), some (.int l1), some (.int l2), some (.int l3), none, none, none] [] S im Q := by
  refine V.iconst (v := 0) dX3_worked_0 (by decide) ?_
  refine V.istore dX3_worked_1 rfl rfl ?_
  refine V.iconst (v := 0) dX3_worked_3 (by decide) ?_
  refine V.istore dX3_worked_4 rfl rfl ?_
  exact k
theorem bX3_worked_6 {d : Nat} {b : Nat × Nat} {S : XS} {im : XI} {Q : Option Value → XS → XI → Prop} {l0 : Nat} {l1 : Int32} {l2 : Int32} {l3 : Int32} {l4 : Int32} {l5 : Int32} {r1 : Nat} {P : Int32 → XI → Prop} (g0 : S.1[l0]? = some (.inl 3)) (g1 : S.2 l0 1 = some r1) (g2 : S.1[r1]? = some (.inl 6)) (hs : SpI mX6_size d [.ref r1] S im P) (k : ∀ x2 im2, P x2 im2 → V mX3_worked (d + 1) b 15 [some (.ref l0), some (.int l1), some (.int l2), some (.int l3), some (.int l4), some (.int l5), none] [.int x2, .int l5] S im2 Q) : V mX3_worked (d + 1) b 6 [some (.ref l0), some (.int l1), some (.int l2), some (.int l3), some (.int l4), some (.int l5), none] [] S im Q := by
  refine V.iload dX3_worked_6 rfl ?_
  refine V.aload_n dX3_worked_8 rfl rfl ?_
  refine V.getR fX3_14 rfl g0 g1 dX3_worked_9 ?_
  refine V.cVI rfl vX6_size lkX3_52 wX6_size (ci := 6) rfl g2 (As := []) rfl rfl rfl dX3_worked_12 hs (fun x2 im2 h2 => ?_)
  exact k x2 im2 h2
theorem bX3_worked_15 {d : Nat} {b : Nat × Nat} {S : XS} {im : XI} {Q : Option Value → XS → XI → Prop} {l0 : Nat} {l1 : Int32} {l2 : Int32} {l3 : Int32} {l4 : Int32} {l5 : Int32} {s0 : Int32} {s1 : Int32}  (kt : s1 ≤ s0 → V mX3_worked d b 165 [some (.ref l0), some (.int l1), some (.int l2), some (.int l3), some (.int l4), some (.int l5), none] [] S im Q) (kf : ¬ s1 ≤ s0 → V mX3_worked d b 18 [some (.ref l0), some (.int l1), some (.int l2), some (.int l3), some (.int l4), some (.int l5), none] [] S im Q) : V mX3_worked d b 15 [some (.ref l0), some (.int l1), some (.int l2), some (.int l3), some (.int l4), some (.int l5), none] [.int s1, .int s0] S im Q := by
  refine V.icmp_ge (tgt := 165) dX3_worked_15 (by decide) (fun h => ?_) (fun h => ?_)
  · exact kt h
  · exact kf h
theorem bX3_worked_18 {d : Nat} {b : Nat × Nat} {S : XS} {im : XI} {Q : Option Value → XS → XI → Prop} {l0 : Nat} {l1 : Int32} {l2 : Int32} {l3 : Int32} {l4 : Int32} {l5 : Int32} {r1 : Nat} {P : Int32 → XI → Prop} (g0 : S.1[l0]? = some (.inl 3)) (g1 : S.2 l0 1 = some r1) (g2 : S.1[r1]? = some (.inl 6)) (hs : SpI mX6_at d [.ref r1, .int l5] S im P) (k : ∀ x2 im2, P x2 im2 → V mX3_worked (d + 1) b 27 [some (.ref l0), some (.int l1), some (.int l2), some (.int l3), some (.int l4), some (.int l5), none] [.int x2] S im2 Q) : V mX3_worked (d + 1) b 18 [some (.ref l0), some (.int l1), some (.int l2), some (.int l3), some (.int l4), some (.int l5), none] [] S im Q := by
  refine V.aload_n dX3_worked_18 rfl rfl ?_
  refine V.getR fX3_14 rfl g0 g1 dX3_worked_19 ?_
  refine V.iload dX3_worked_22 rfl ?_
  refine V.cVI rfl vX6_at lkX3_56 wX6_at (ci := 6) rfl g2 (As := [.int l5]) rfl rfl rfl dX3_worked_24 hs (fun x2 im2 h2 => ?_)
  exact k x2 im2 h2
theorem bX3_worked_27 {d : Nat} {b : Nat × Nat} {S : XS} {im : XI} {Q : Option Value → XS → XI → Prop} {l0 : Nat} {l1 : Int32} {l2 : Int32} {l3 : Int32} {l4 : Int32} {l5 : Int32} {s0 : Int32}  (kt : ¬ s0 = (-33 : Int32) → V mX3_worked d b 71 [some (.ref l0), some (.int l1), some (.int l2), some (.int l3), some (.int l4), some (.int l5), some (.int s0)] [] S im Q) (kf : s0 = (-33 : Int32) → V mX3_worked d b 36 [some (.ref l0), some (.int l1), some (.int l2), some (.int l3), some (.int l4), some (.int l5), some (.int s0)] [] S im Q) : V mX3_worked d b 27 [some (.ref l0), some (.int l1), some (.int l2), some (.int l3), some (.int l4), some (.int l5), none] [.int s0] S im Q := by
  refine V.istore dX3_worked_27 rfl rfl ?_
  refine V.iload dX3_worked_29 rfl ?_
  refine V.bipush (v := -33) dX3_worked_31 (by decide) ?_
  refine V.icmp_ne (tgt := 71) dX3_worked_33 (by decide) (fun h => ?_) (fun h => ?_)
  · exact kt h
  · exact kf h
theorem bX3_worked_36 {d : Nat} {b : Nat × Nat} {S : XS} {im : XI} {Q : Option Value → XS → XI → Prop} {l0 : Nat} {l1 : Int32} {l2 : Int32} {l3 : Int32} {l4 : Int32} {l5 : Int32} {l6 : Int32}  (kt : l4 < (1 : Int32) → V mX3_worked d b 71 [some (.ref l0), some (.int l1), some (.int l2), some (.int l3), some (.int l4), some (.int l5), some (.int l6)] [] S im Q) (kf : ¬ l4 < (1 : Int32) → V mX3_worked d b 42 [some (.ref l0), some (.int l1), some (.int l2), some (.int l3), some (.int l4), some (.int l5), some (.int l6)] [] S im Q) : V mX3_worked d b 36 [some (.ref l0), some (.int l1), some (.int l2), some (.int l3), some (.int l4), some (.int l5), some (.int l6)] [] S im Q := by
  refine V.iload dX3_worked_36 rfl ?_
  refine V.iconst (v := 1) dX3_worked_38 (by decide) ?_
  refine V.icmp_lt (tgt := 71) dX3_worked_39 (by decide) (fun h => ?_) (fun h => ?_)
  · exact kt h
  · exact kf h
theorem bX3_worked_42 {d : Nat} {b : Nat × Nat} {S : XS} {im : XI} {Q : Option Value → XS → XI → Prop} {l0 : Nat} {l1 : Int32} {l2 : Int32} {l3 : Int32} {l4 : Int32} {l5 : Int32} {l6 : Int32} {r1 : Nat} {n2 : Nat} {i3 : Nat} (g0 : S.1[l0]? = some (.inl 3)) (g1 : S.2 l0 2 = some r1) (g2 : XA S r1 n2) (g3 : (l4 - (1 : Int32)) = nI i3) (g4 : i3 < n2) (kt : ¬ (im r1 i3) = 0 → V mX3_worked d b 66 [some (.ref l0), some (.int l1), some (.int l2), some (.int l3), some (.int l4), some (.int l5), some (.int l6)] [.int (l4 - (1 : Int32)), .ref r1] S im Q) (kf : (im r1 i3) = 0 → V mX3_worked d b 62 [some (.ref l0), some (.int l1), some (.int l2), some (.int l3), some (.int l4), some (.int l5), some (.int l6)] [.int (l4 - (1 : Int32)), .ref r1] S im Q) : V mX3_worked d b 42 [some (.ref l0), some (.int l1), some (.int l2), some (.int l3), some (.int l4), some (.int l5), some (.int l6)] [] S im Q := by
  refine V.aload_n dX3_worked_42 rfl rfl ?_
  refine V.getR fX3_20 rfl g0 g1 dX3_worked_43 ?_
  refine V.iload dX3_worked_46 rfl ?_
  refine V.iconst (v := 1) dX3_worked_48 (by decide) ?_
  refine V.isub dX3_worked_49 ?_
  refine V.aload_n dX3_worked_50 rfl rfl ?_
  refine V.getR fX3_20 rfl g0 g1 dX3_worked_51 ?_
  refine V.iload dX3_worked_54 rfl ?_
  refine V.iconst (v := 1) dX3_worked_56 (by decide) ?_
  refine V.isub dX3_worked_57 ?_
  refine V.iald (i := i3) g2 g3 g4 dX3_worked_58 ?_
  refine V.if_ne (tgt := 66) dX3_worked_59 (by decide) (fun h => ?_) (fun h => ?_)
  · exact kt h
  · exact kf h
theorem bX3_worked_62 {d : Nat} {b : Nat × Nat} {S : XS} {im : XI} {Q : Option Value → XS → XI → Prop} {l0 : Nat} {l1 : Int32} {l2 : Int32} {l3 : Int32} {l4 : Int32} {l5 : Int32} {l6 : Int32} {s0 : Nat} {s1 : Int32}  (k : V mX3_worked d b 67 [some (.ref l0), some (.int l1), some (.int l2), some (.int l3), some (.int l4), some (.int l5), some (.int l6)] [.int (1 : Int32), .int s1, .ref s0] S im Q) : V mX3_worked d b 62 [some (.ref l0), some (.int l1), some (.int l2), some (.int l3), some (.int l4), some (.int l5), some (.int l6)] [.int s1, .ref s0] S im Q := by
  refine V.iconst (v := 1) dX3_worked_62 (by decide) ?_
  refine V.goto (tgt := 67) dX3_worked_63 (by decide) ?_
  exact k
theorem bX3_worked_66 {d : Nat} {b : Nat × Nat} {S : XS} {im : XI} {Q : Option Value → XS → XI → Prop} {l0 : Nat} {l1 : Int32} {l2 : Int32} {l3 : Int32} {l4 : Int32} {l5 : Int32} {l6 : Int32} {s0 : Nat} {s1 : Int32}  (k : V mX3_worked d b 67 [some (.ref l0), some (.int l1), some (.int l2), some (.int l3), some (.int l4), some (.int l5), some (.int l6)] [.int (0 : Int32), .int s1, .ref s0] S im Q) : V mX3_worked d b 66 [some (.ref l0), some (.int l1), some (.int l2), some (.int l3), some (.int l4), some (.int l5), some (.int l6)] [.int s1, .ref s0] S im Q := by
  refine V.iconst (v := 0) dX3_worked_66 (by decide) ?_
  exact k
theorem bX3_worked_67 {d : Nat} {b : Nat × Nat} {S : XS} {im : XI} {Q : Option Value → XS → XI → Prop} {l0 : Nat} {l1 : Int32} {l2 : Int32} {l3 : Int32} {l4 : Int32} {l5 : Int32} {l6 : Int32} {s0 : Nat} {s1 : Int32} {s2 : Int32} {n1 : Nat} {i2 : Nat} (g0 : XA S s0 n1) (g1 : s1 = nI i2) (g2 : i2 < n1) (k : V mX3_worked d b 159 [some (.ref l0), some (.int l1), some (.int l2), some (.int l3), some (.int l4), some (.int l5), some (.int l6)] [] S (xup im s0 i2 s2) Q) : V mX3_worked d b 67 [some (.ref l0), some (.int l1), some (.int l2), some (.int l3), some (.int l4), some (.int l5), some (.int l6)] [.int s2, .int s1, .ref s0] S im Q := by
  refine V.iast (i := i2) g0 g1 g2 dX3_worked_67 ?_
  refine V.goto (tgt := 159) dX3_worked_68 (by decide) ?_
  exact k
theorem bX3_worked_71 {d : Nat} {b : Nat × Nat} {S : XS} {im : XI} {Q : Option Value → XS → XI → Prop} {l0 : Nat} {l1 : Int32} {l2 : Int32} {l3 : Int32} {l4 : Int32} {l5 : Int32} {l6 : Int32}  (kt : (-3 : Int32) ≤ l6 → V mX3_worked d b 121 [some (.ref l0), some (.int l1), some (.int l2), some (.int l3), some (.int l4), some (.int l5), some (.int l6)] [] S im Q) (kf : ¬ (-3 : Int32) ≤ l6 → V mX3_worked d b 78 [some (.ref l0), some (.int l1), some (.int l2), some (.int l3), some (.int l4), some (.int l5), some (.int l6)] [] S im Q) : V mX3_worked d b 71 [some (.ref l0), some (.int l1), some (.int l2), some (.int l3), some (.int l4), some (.int l5), some (.int l6)] [] S im Q := by
  refine V.iload dX3_worked_71 rfl ?_
  refine V.bipush (v := -3) dX3_worked_73 (by decide) ?_
  refine V.icmp_ge (tgt := 121) dX3_worked_75 (by decide) (fun h => ?_) (fun h => ?_)
  · exact kt h
  · exact kf h
theorem bX3_worked_78 {d : Nat} {b : Nat × Nat} {S : XS} {im : XI} {Q : Option Value → XS → XI → Prop} {l0 : Nat} {l1 : Int32} {l2 : Int32} {l3 : Int32} {l4 : Int32} {l5 : Int32} {l6 : Int32}  (kt : l4 < (2 : Int32) → V mX3_worked d b 121 [some (.ref l0), some (.int l1), some (.int l2), some (.int l3), some (.int l4), some (.int l5), some (.int l6)] [] S im Q) (kf : ¬ l4 < (2 : Int32) → V mX3_worked d b 84 [some (.ref l0), some (.int l1), some (.int l2), some (.int l3), some (.int l4), some (.int l5), some (.int l6)] [] S im Q) : V mX3_worked d b 78 [some (.ref l0), some (.int l1), some (.int l2), some (.int l3), some (.int l4), some (.int l5), some (.int l6)] [] S im Q := by
  refine V.iload dX3_worked_78 rfl ?_
  refine V.iconst (v := 2) dX3_worked_80 (by decide) ?_
  refine V.icmp_lt (tgt := 121) dX3_worked_81 (by decide) (fun h => ?_) (fun h => ?_)
  · exact kt h
  · exact kf h
theorem bX3_worked_84 {d : Nat} {b : Nat × Nat} {S : XS} {im : XI} {Q : Option Value → XS → XI → Prop} {l0 : Nat} {l1 : Int32} {l2 : Int32} {l3 : Int32} {l4 : Int32} {l5 : Int32} {l6 : Int32} {r1 : Nat} {n2 : Nat} {i3 : Nat} {i4 : Nat} {P : Int32 → XI → Prop} (g0 : S.1[l0]? = some (.inl 3)) (g1 : S.2 l0 2 = some r1) (g2 : XA S r1 n2) (g3 : ((l4 + (-1 : Int32)) - (1 : Int32)) = nI i3) (g4 : i3 < n2) (g5 : (l4 + (-1 : Int32)) = nI i4) (g6 : i4 < n2) (hs : SpI mX3_joined d [.int (-l6), .int (im r1 i3), .int (im r1 i4)] S im P) (k : ∀ x2 im2, P x2 im2 → V mX3_worked (d + 1) b 117 [some (.ref l0), some (.int l1), some (.int l2), some (.int l3), some (.int (l4 + (-1 : Int32))), some (.int l5), some (.int l6)] [.int x2, .int ((l4 + (-1 : Int32)) - (1 : Int32)), .ref r1] S im2 Q) : V mX3_worked (d + 1) b 84 [some (.ref l0), some (.int l1), some (.int l2), some (.int l3), some (.int l4), some (.int l5), some (.int l6)] [] S im Q := by
  refine V.iinc (v := (l4 + (-1 : Int32))) dX3_worked_84 rfl rfl rfl ?_
  refine V.aload_n dX3_worked_87 rfl rfl ?_
  refine V.getR fX3_20 rfl g0 g1 dX3_worked_88 ?_
  refine V.iload dX3_worked_91 rfl ?_
  refine V.iconst (v := 1) dX3_worked_93 (by decide) ?_
  refine V.isub dX3_worked_94 ?_
  refine V.iload dX3_worked_95 rfl ?_
  refine V.ineg dX3_worked_97 ?_
  refine V.aload_n dX3_worked_98 rfl rfl ?_
  refine V.getR fX3_20 rfl g0 g1 dX3_worked_99 ?_
  refine V.iload dX3_worked_102 rfl ?_
  refine V.iconst (v := 1) dX3_worked_104 (by decide) ?_
  refine V.isub dX3_worked_105 ?_
  refine V.iald (i := i3) g2 g3 g4 dX3_worked_106 ?_
  refine V.aload_n dX3_worked_107 rfl rfl ?_
  refine V.getR fX3_20 rfl g0 g1 dX3_worked_108 ?_
  refine V.iload dX3_worked_111 rfl ?_
  refine V.iald (i := i4) g2 g5 g6 dX3_worked_113 ?_
  refine V.cSI rfl vX3_joined lkX3_60 sX3_joined (As := [.int (-l6), .int (im r1 i3), .int (im r1 i4)]) rfl rfl rfl dX3_worked_114 hs (fun x2 im2 h2 => ?_)
  exact k x2 im2 h2
theorem bX3_worked_117 {d : Nat} {b : Nat × Nat} {S : XS} {im : XI} {Q : Option Value → XS → XI → Prop} {l0 : Nat} {l1 : Int32} {l2 : Int32} {l3 : Int32} {l4 : Int32} {l5 : Int32} {l6 : Int32} {s0 : Nat} {s1 : Int32} {s2 : Int32} {n1 : Nat} {i2 : Nat} (g0 : XA S s0 n1) (g1 : s1 = nI i2) (g2 : i2 < n1) (k : V mX3_worked d b 159 [some (.ref l0), some (.int l1), some (.int l2), some (.int l3), some (.int l4), some (.int l5), some (.int l6)] [] S (xup im s0 i2 s2) Q) : V mX3_worked d b 117 [some (.ref l0), some (.int l1), some (.int l2), some (.int l3), some (.int l4), some (.int l5), some (.int l6)] [.int s2, .int s1, .ref s0] S im Q := by
  refine V.iast (i := i2) g0 g1 g2 dX3_worked_117 ?_
  refine V.goto (tgt := 159) dX3_worked_118 (by decide) ?_
  exact k
theorem bX3_worked_121 {d : Nat} {b : Nat × Nat} {S : XS} {im : XI} {Q : Option Value → XS → XI → Prop} {l0 : Nat} {l1 : Int32} {l2 : Int32} {l3 : Int32} {l4 : Int32} {l5 : Int32} {l6 : Int32} {r1 : Nat} {n2 : Nat} (g0 : S.1[l0]? = some (.inl 3)) (g1 : S.2 l0 2 = some r1) (g2 : XA S r1 n2) (kt : (nI n2) ≤ l4 → V mX3_worked d b 159 [some (.ref l0), some (.int l1), some (.int l2), some (.int l3), some (.int l4), some (.int l5), some (.int l6)] [] S im Q) (kf : ¬ (nI n2) ≤ l4 → V mX3_worked d b 131 [some (.ref l0), some (.int l1), some (.int l2), some (.int l3), some (.int l4), some (.int l5), some (.int l6)] [] S im Q) : V mX3_worked d b 121 [some (.ref l0), some (.int l1), some (.int l2), some (.int l3), some (.int l4), some (.int l5), some (.int l6)] [] S im Q := by
  refine V.iload dX3_worked_121 rfl ?_
  refine V.aload_n dX3_worked_123 rfl rfl ?_
  refine V.getR fX3_20 rfl g0 g1 dX3_worked_124 ?_
  refine V.alen g2 dX3_worked_127 ?_
  refine V.icmp_ge (tgt := 159) dX3_worked_128 (by decide) (fun h => ?_) (fun h => ?_)
  · exact kt h
  · exact kf h
theorem bX3_worked_131 {d : Nat} {b : Nat × Nat} {S : XS} {im : XI} {Q : Option Value → XS → XI → Prop} {l0 : Nat} {l1 : Int32} {l2 : Int32} {l3 : Int32} {l4 : Int32} {l5 : Int32} {l6 : Int32} {r1 : Nat} (g0 : S.1[l0]? = some (.inl 3)) (g1 : S.2 l0 2 = some r1) (kt : l6 < 0 → V mX3_worked d b 147 [some (.ref l0), some (.int l1), some (.int l2), some (.int l3), some (.int l4), some (.int l5), some (.int l6)] [.int l4, .ref r1] S im Q) (kf : ¬ l6 < 0 → V mX3_worked d b 142 [some (.ref l0), some (.int l1), some (.int l2), some (.int l3), some (.int l4), some (.int l5), some (.int l6)] [.int l4, .ref r1] S im Q) : V mX3_worked d b 131 [some (.ref l0), some (.int l1), some (.int l2), some (.int l3), some (.int l4), some (.int l5), some (.int l6)] [] S im Q := by
  refine V.aload_n dX3_worked_131 rfl rfl ?_
  refine V.getR fX3_20 rfl g0 g1 dX3_worked_132 ?_
  refine V.iload dX3_worked_135 rfl ?_
  refine V.iload dX3_worked_137 rfl ?_
  refine V.if_lt (tgt := 147) dX3_worked_139 (by decide) (fun h => ?_) (fun h => ?_)
  · exact kt h
  · exact kf h
theorem bX3_worked_142 {d : Nat} {b : Nat × Nat} {S : XS} {im : XI} {Q : Option Value → XS → XI → Prop} {l0 : Nat} {l1 : Int32} {l2 : Int32} {l3 : Int32} {l4 : Int32} {l5 : Int32} {l6 : Int32} {s0 : Nat} {s1 : Int32}  (k : V mX3_worked d b 155 [some (.ref l0), some (.int l1), some (.int l2), some (.int l3), some (.int l4), some (.int l5), some (.int l6)] [.int l6, .int s1, .ref s0] S im Q) : V mX3_worked d b 142 [some (.ref l0), some (.int l1), some (.int l2), some (.int l3), some (.int l4), some (.int l5), some (.int l6)] [.int s1, .ref s0] S im Q := by
  refine V.iload dX3_worked_142 rfl ?_
  refine V.goto (tgt := 155) dX3_worked_144 (by decide) ?_
  exact k
theorem bX3_worked_147 {d : Nat} {b : Nat × Nat} {S : XS} {im : XI} {Q : Option Value → XS → XI → Prop} {l0 : Nat} {l1 : Int32} {l2 : Int32} {l3 : Int32} {l4 : Int32} {l5 : Int32} {l6 : Int32} {s0 : Nat} {s1 : Int32} {P : Int32 → XI → Prop}  (hs : SpI mX3_named d [.int l6, .int l1, .int l2, .int l3] S im P) (k : ∀ x2 im2, P x2 im2 → V mX3_worked (d + 1) b 155 [some (.ref l0), some (.int l1), some (.int l2), some (.int l3), some (.int l4), some (.int l5), some (.int l6)] [.int x2, .int s1, .ref s0] S im2 Q) : V mX3_worked (d + 1) b 147 [some (.ref l0), some (.int l1), some (.int l2), some (.int l3), some (.int l4), some (.int l5), some (.int l6)] [.int s1, .ref s0] S im Q := by
  refine V.iload dX3_worked_147 rfl ?_
  refine V.iload_n dX3_worked_149 rfl rfl ?_
  refine V.iload_n dX3_worked_150 rfl rfl ?_
  refine V.iload_n dX3_worked_151 rfl rfl ?_
  refine V.cSI rfl vX3_named lkX3_63 sX3_named (As := [.int l6, .int l1, .int l2, .int l3]) rfl rfl rfl dX3_worked_152 hs (fun x2 im2 h2 => ?_)
  exact k x2 im2 h2
theorem bX3_worked_155 {d : Nat} {b : Nat × Nat} {S : XS} {im : XI} {Q : Option Value → XS → XI → Prop} {l0 : Nat} {l1 : Int32} {l2 : Int32} {l3 : Int32} {l4 : Int32} {l5 : Int32} {l6 : Int32} {s0 : Nat} {s1 : Int32} {s2 : Int32} {n1 : Nat} {i2 : Nat} (g0 : XA S s0 n1) (g1 : s1 = nI i2) (g2 : i2 < n1) (k : V mX3_worked d b 159 [some (.ref l0), some (.int l1), some (.int l2), some (.int l3), some (.int (l4 + (1 : Int32))), some (.int l5), some (.int l6)] [] S (xup im s0 i2 s2) Q) : V mX3_worked d b 155 [some (.ref l0), some (.int l1), some (.int l2), some (.int l3), some (.int l4), some (.int l5), some (.int l6)] [.int s2, .int s1, .ref s0] S im Q := by
  refine V.iast (i := i2) g0 g1 g2 dX3_worked_155 ?_
  refine V.iinc (v := (l4 + (1 : Int32))) dX3_worked_156 rfl rfl rfl ?_
  exact k
theorem bX3_worked_159 {d : Nat} {b : Nat × Nat} {S : XS} {im : XI} {Q : Option Value → XS → XI → Prop} {l0 : Nat} {l1 : Int32} {l2 : Int32} {l3 : Int32} {l4 : Int32} {l5 : Int32} {l6 : Int32}  (k : V mX3_worked d b 6 [some (.ref l0), some (.int l1), some (.int l2), some (.int l3), some (.int l4), some (.int (l5 + (1 : Int32))), none] [] S im Q) : V mX3_worked d b 159 [some (.ref l0), some (.int l1), some (.int l2), some (.int l3), some (.int l4), some (.int l5), some (.int l6)] [] S im Q := by
  refine V.iinc (v := (l5 + (1 : Int32))) dX3_worked_159 rfl rfl rfl ?_
  refine V.goto (tgt := 6) dX3_worked_162 (by decide) ?_
  exact V.weakm [true, true, true, true, true, true, false] rfl (k)
theorem bX3_worked_165 {d : Nat} {b : Nat × Nat} {S : XS} {im : XI} {Q : Option Value → XS → XI → Prop} {l0 : Nat} {l1 : Int32} {l2 : Int32} {l3 : Int32} {l4 : Int32} {l5 : Int32}  (kt : l4 ≤ 0 → V mX3_worked d b 179 [some (.ref l0), some (.int l1), some (.int l2), some (.int l3), some (.int l4), some (.int l5), none] [] S im Q) (kf : ¬ l4 ≤ 0 → V mX3_worked d b 170 [some (.ref l0), some (.int l1), some (.int l2), some (.int l3), some (.int l4), some (.int l5), none] [] S im Q) : V mX3_worked d b 165 [some (.ref l0), some (.int l1), some (.int l2), some (.int l3), some (.int l4), some (.int l5), none] [] S im Q := by
  refine V.iload dX3_worked_165 rfl ?_
  refine V.if_le (tgt := 179) dX3_worked_167 (by decide) (fun h => ?_) (fun h => ?_)
  · exact kt h
  · exact kf h
theorem bX3_worked_170 {d : Nat} {b : Nat × Nat} {S : XS} {im : XI} {Q : Option Value → XS → XI → Prop} {l0 : Nat} {l1 : Int32} {l2 : Int32} {l3 : Int32} {l4 : Int32} {l5 : Int32} {r1 : Nat} {n2 : Nat} (g0 : S.1[l0]? = some (.inl 3)) (g1 : S.2 l0 2 = some r1) (g2 : XA S r1 n2) (g3 : 0 < n2) (k : V mX3_worked d b 180 [some (.ref l0), some (.int l1), some (.int l2), some (.int l3), some (.int l4), some (.int l5), none] [.int (im r1 0)] S im Q) : V mX3_worked d b 170 [some (.ref l0), some (.int l1), some (.int l2), some (.int l3), some (.int l4), some (.int l5), none] [] S im Q := by
  refine V.aload_n dX3_worked_170 rfl rfl ?_
  refine V.getR fX3_20 rfl g0 g1 dX3_worked_171 ?_
  refine V.iconst (v := 0) dX3_worked_174 (by decide) ?_
  refine V.iald (i := 0) g2 (by rfl) g3 dX3_worked_175 ?_
  refine V.goto (tgt := 180) dX3_worked_176 (by decide) ?_
  exact k
theorem bX3_worked_179 {d : Nat} {b : Nat × Nat} {S : XS} {im : XI} {Q : Option Value → XS → XI → Prop} {l0 : Nat} {l1 : Int32} {l2 : Int32} {l3 : Int32} {l4 : Int32} {l5 : Int32}  (k : V mX3_worked d b 180 [some (.ref l0), some (.int l1), some (.int l2), some (.int l3), some (.int l4), some (.int l5), none] [.int (0 : Int32)] S im Q) : V mX3_worked d b 179 [some (.ref l0), some (.int l1), some (.int l2), some (.int l3), some (.int l4), some (.int l5), none] [] S im Q := by
  refine V.iconst (v := 0) dX3_worked_179 (by decide) ?_
  exact k
theorem bX3_worked_180 {d : Nat} {b : Nat × Nat} {S : XS} {im : XI} {Q : Option Value → XS → XI → Prop} {l0 : Nat} {l1 : Int32} {l2 : Int32} {l3 : Int32} {l4 : Int32} {l5 : Int32} {s0 : Int32}  (hq : Q (some (.int s0)) S im) : V mX3_worked d b 180 [some (.ref l0), some (.int l1), some (.int l2), some (.int l3), some (.int l4), some (.int l5), none] [.int s0] S im Q := by
  exact V.iret rfl dX3_worked_180 hq
theorem bX3_named_0 {d : Nat} {b : Nat × Nat} {S : XS} {im : XI} {Q : Option Value → XS → XI → Prop} {l0 : Int32} {l1 : Int32} {l2 : Int32} {l3 : Int32}  (kt : ¬ l0 = (-1 : Int32) → V mX3_named d b 7 [some (.int l0), some (.int l1), some (.int l2), some (.int l3)] [] S im Q) (kf : l0 = (-1 : Int32) → V mX3_named d b 5 [some (.int l0), some (.int l1), some (.int l2), some (.int l3)] [] S im Q) : V mX3_named d b 0 [some (.int l0), some (.int l1), some (.int l2), some (.int l3)] [] S im Q := by
  refine V.iload_n dX3_named_0 rfl rfl ?_
  refine V.iconst (v := -1) dX3_named_1 (by decide) ?_
  refine V.icmp_ne (tgt := 7) dX3_named_2 (by decide) (fun h => ?_) (fun h => ?_)
  · exact kt h
  · exact kf h
theorem bX3_named_5 {d : Nat} {b : Nat × Nat} {S : XS} {im : XI} {Q : Option Value → XS → XI → Prop} {l0 : Int32} {l1 : Int32} {l2 : Int32} {l3 : Int32}  (hq : Q (some (.int l1)) S im) : V mX3_named d b 5 [some (.int l0), some (.int l1), some (.int l2), some (.int l3)] [] S im Q := by
  refine V.iload_n dX3_named_5 rfl rfl ?_
  exact V.iret rfl dX3_named_6 hq
theorem bX3_named_7 {d : Nat} {b : Nat × Nat} {S : XS} {im : XI} {Q : Option Value → XS → XI → Prop} {l0 : Int32} {l1 : Int32} {l2 : Int32} {l3 : Int32}  (kt : ¬ l0 = (-2 : Int32) → V mX3_named d b 17 [some (.int l0), some (.int l1), some (.int l2), some (.int l3)] [] S im Q) (kf : l0 = (-2 : Int32) → V mX3_named d b 13 [some (.int l0), some (.int l1), some (.int l2), some (.int l3)] [] S im Q) : V mX3_named d b 7 [some (.int l0), some (.int l1), some (.int l2), some (.int l3)] [] S im Q := by
  refine V.iload_n dX3_named_7 rfl rfl ?_
  refine V.bipush (v := -2) dX3_named_8 (by decide) ?_
  refine V.icmp_ne (tgt := 17) dX3_named_10 (by decide) (fun h => ?_) (fun h => ?_)
  · exact kt h
  · exact kf h
theorem bX3_named_13 {d : Nat} {b : Nat × Nat} {S : XS} {im : XI} {Q : Option Value → XS → XI → Prop} {l0 : Int32} {l1 : Int32} {l2 : Int32} {l3 : Int32}  (k : V mX3_named d b 18 [some (.int l0), some (.int l1), some (.int l2), some (.int l3)] [.int l2] S im Q) : V mX3_named d b 13 [some (.int l0), some (.int l1), some (.int l2), some (.int l3)] [] S im Q := by
  refine V.iload_n dX3_named_13 rfl rfl ?_
  refine V.goto (tgt := 18) dX3_named_14 (by decide) ?_
  exact k
theorem bX3_named_17 {d : Nat} {b : Nat × Nat} {S : XS} {im : XI} {Q : Option Value → XS → XI → Prop} {l0 : Int32} {l1 : Int32} {l2 : Int32} {l3 : Int32}  (k : V mX3_named d b 18 [some (.int l0), some (.int l1), some (.int l2), some (.int l3)] [.int l3] S im Q) : V mX3_named d b 17 [some (.int l0), some (.int l1), some (.int l2), some (.int l3)] [] S im Q := by
  refine V.iload_n dX3_named_17 rfl rfl ?_
  exact k
theorem bX3_named_18 {d : Nat} {b : Nat × Nat} {S : XS} {im : XI} {Q : Option Value → XS → XI → Prop} {l0 : Int32} {l1 : Int32} {l2 : Int32} {l3 : Int32} {s0 : Int32}  (hq : Q (some (.int s0)) S im) : V mX3_named d b 18 [some (.int l0), some (.int l1), some (.int l2), some (.int l3)] [.int s0] S im Q := by
  exact V.iret rfl dX3_named_18 hq
theorem bX3_joined_0 {d : Nat} {b : Nat × Nat} {S : XS} {im : XI} {Q : Option Value → XS → XI → Prop} {l0 : Int32} {l1 : Int32} {l2 : Int32}  (k0 : l0 = 38 → V mX3_joined d b 98 [some (.int l0), some (.int l1), some (.int l2)] [] S im Q) (k1 : l0 = 42 → V mX3_joined d b 153 [some (.int l0), some (.int l1), some (.int l2)] [] S im Q) (k2 : l0 = 43 → V mX3_joined d b 145 [some (.int l0), some (.int l1), some (.int l2)] [] S im Q) (k3 : l0 = 45 → V mX3_joined d b 149 [some (.int l0), some (.int l1), some (.int l2)] [] S im Q) (k4 : l0 = 47 → V mX3_joined d b 157 [some (.int l0), some (.int l1), some (.int l2)] [] S im Q) (k5 : l0 = 60 → V mX3_joined d b 112 [some (.int l0), some (.int l1), some (.int l2)] [] S im Q) (k6 : l0 = 61 → V mX3_joined d b 123 [some (.int l0), some (.int l1), some (.int l2)] [] S im Q) (k7 : l0 = 62 → V mX3_joined d b 134 [some (.int l0), some (.int l1), some (.int l2)] [] S im Q) (k8 : l0 = 124 → V mX3_joined d b 84 [some (.int l0), some (.int l1), some (.int l2)] [] S im Q) (kd : ¬ l0 = 38 → ¬ l0 = 42 → ¬ l0 = 43 → ¬ l0 = 45 → ¬ l0 = 47 → ¬ l0 = 60 → ¬ l0 = 61 → ¬ l0 = 62 → ¬ l0 = 124 → V mX3_joined d b 169 [some (.int l0), some (.int l1), some (.int l2)] [] S im Q) : V mX3_joined d b 0 [some (.int l0), some (.int l1), some (.int l2)] [] S im Q := by
  refine V.iload_n dX3_joined_0 rfl rfl ?_
  by_cases c0 : l0 = 38
  · exact V.lookup (tgt := 98) (off := 97) dX3_joined_1 rfl (by rw [c0] <;> rfl) (by decide) (k0 c0)
  · skip
    by_cases c1 : l0 = 42
    · exact V.lookup (tgt := 153) (off := 152) dX3_joined_1 rfl (by rw [c1] <;> rfl) (by decide) (k1 c1)
    · skip
      by_cases c2 : l0 = 43
      · exact V.lookup (tgt := 145) (off := 144) dX3_joined_1 rfl (by rw [c2] <;> rfl) (by decide) (k2 c2)
      · skip
        by_cases c3 : l0 = 45
        · exact V.lookup (tgt := 149) (off := 148) dX3_joined_1 rfl (by rw [c3] <;> rfl) (by decide) (k3 c3)
        · skip
          by_cases c4 : l0 = 47
          · exact V.lookup (tgt := 157) (off := 156) dX3_joined_1 rfl (by rw [c4] <;> rfl) (by decide) (k4 c4)
          · skip
            by_cases c5 : l0 = 60
            · exact V.lookup (tgt := 112) (off := 111) dX3_joined_1 rfl (by rw [c5] <;> rfl) (by decide) (k5 c5)
            · skip
              by_cases c6 : l0 = 61
              · exact V.lookup (tgt := 123) (off := 122) dX3_joined_1 rfl (by rw [c6] <;> rfl) (by decide) (k6 c6)
              · skip
                by_cases c7 : l0 = 62
                · exact V.lookup (tgt := 134) (off := 133) dX3_joined_1 rfl (by rw [c7] <;> rfl) (by decide) (k7 c7)
                · skip
                  by_cases c8 : l0 = 124
                  · exact V.lookup (tgt := 84) (off := 83) dX3_joined_1 rfl (by rw [c8] <;> rfl) (by decide) (k8 c8)
                  · skip
                    exact V.lookup (tgt := 169) (off := 168) dX3_joined_1 rfl ((lv_osw c0 rfl).trans ((lv_osw c1 rfl).trans ((lv_osw c2 rfl).trans ((lv_osw c3 rfl).trans ((lv_osw c4 rfl).trans ((lv_osw c5 rfl).trans ((lv_osw c6 rfl).trans ((lv_osw c7 rfl).trans ((lv_osw c8 rfl).trans rfl))))))))) (by decide) (kd c0 c1 c2 c3 c4 c5 c6 c7 c8)
theorem bX3_joined_84 {d : Nat} {b : Nat × Nat} {S : XS} {im : XI} {Q : Option Value → XS → XI → Prop} {l0 : Int32} {l1 : Int32} {l2 : Int32}  (kt : ¬ l1 = 0 → V mX3_joined d b 92 [some (.int l0), some (.int l1), some (.int l2)] [] S im Q) (kf : l1 = 0 → V mX3_joined d b 88 [some (.int l0), some (.int l1), some (.int l2)] [] S im Q) : V mX3_joined d b 84 [some (.int l0), some (.int l1), some (.int l2)] [] S im Q := by
  refine V.iload_n dX3_joined_84 rfl rfl ?_
  refine V.if_ne (tgt := 92) dX3_joined_85 (by decide) (fun h => ?_) (fun h => ?_)
  · exact kt h
  · exact kf h
theorem bX3_joined_88 {d : Nat} {b : Nat × Nat} {S : XS} {im : XI} {Q : Option Value → XS → XI → Prop} {l0 : Int32} {l1 : Int32} {l2 : Int32}  (kt : l2 = 0 → V mX3_joined d b 96 [some (.int l0), some (.int l1), some (.int l2)] [] S im Q) (kf : ¬ l2 = 0 → V mX3_joined d b 92 [some (.int l0), some (.int l1), some (.int l2)] [] S im Q) : V mX3_joined d b 88 [some (.int l0), some (.int l1), some (.int l2)] [] S im Q := by
  refine V.iload_n dX3_joined_88 rfl rfl ?_
  refine V.if_eq (tgt := 96) dX3_joined_89 (by decide) (fun h => ?_) (fun h => ?_)
  · exact kt h
  · exact kf h
theorem bX3_joined_92 {d : Nat} {b : Nat × Nat} {S : XS} {im : XI} {Q : Option Value → XS → XI → Prop} {l0 : Int32} {l1 : Int32} {l2 : Int32}  (k : V mX3_joined d b 97 [some (.int l0), some (.int l1), some (.int l2)] [.int (1 : Int32)] S im Q) : V mX3_joined d b 92 [some (.int l0), some (.int l1), some (.int l2)] [] S im Q := by
  refine V.iconst (v := 1) dX3_joined_92 (by decide) ?_
  refine V.goto (tgt := 97) dX3_joined_93 (by decide) ?_
  exact k
theorem bX3_joined_96 {d : Nat} {b : Nat × Nat} {S : XS} {im : XI} {Q : Option Value → XS → XI → Prop} {l0 : Int32} {l1 : Int32} {l2 : Int32}  (k : V mX3_joined d b 97 [some (.int l0), some (.int l1), some (.int l2)] [.int (0 : Int32)] S im Q) : V mX3_joined d b 96 [some (.int l0), some (.int l1), some (.int l2)] [] S im Q := by
  refine V.iconst (v := 0) dX3_joined_96 (by decide) ?_
  exact k
theorem bX3_joined_97 {d : Nat} {b : Nat × Nat} {S : XS} {im : XI} {Q : Option Value → XS → XI → Prop} {l0 : Int32} {l1 : Int32} {l2 : Int32} {s0 : Int32}  (hq : Q (some (.int s0)) S im) : V mX3_joined d b 97 [some (.int l0), some (.int l1), some (.int l2)] [.int s0] S im Q := by
  exact V.iret rfl dX3_joined_97 hq
theorem bX3_joined_98 {d : Nat} {b : Nat × Nat} {S : XS} {im : XI} {Q : Option Value → XS → XI → Prop} {l0 : Int32} {l1 : Int32} {l2 : Int32}  (kt : l1 = 0 → V mX3_joined d b 110 [some (.int l0), some (.int l1), some (.int l2)] [] S im Q) (kf : ¬ l1 = 0 → V mX3_joined d b 102 [some (.int l0), some (.int l1), some (.int l2)] [] S im Q) : V mX3_joined d b 98 [some (.int l0), some (.int l1), some (.int l2)] [] S im Q := by
  refine V.iload_n dX3_joined_98 rfl rfl ?_
  refine V.if_eq (tgt := 110) dX3_joined_99 (by decide) (fun h => ?_) (fun h => ?_)
  · exact kt h
  · exact kf h
theorem bX3_joined_102 {d : Nat} {b : Nat × Nat} {S : XS} {im : XI} {Q : Option Value → XS → XI → Prop} {l0 : Int32} {l1 : Int32} {l2 : Int32}  (kt : l2 = 0 → V mX3_joined d b 110 [some (.int l0), some (.int l1), some (.int l2)] [] S im Q) (kf : ¬ l2 = 0 → V mX3_joined d b 106 [some (.int l0), some (.int l1), some (.int l2)] [] S im Q) : V mX3_joined d b 102 [some (.int l0), some (.int l1), some (.int l2)] [] S im Q := by
  refine V.iload_n dX3_joined_102 rfl rfl ?_
  refine V.if_eq (tgt := 110) dX3_joined_103 (by decide) (fun h => ?_) (fun h => ?_)
  · exact kt h
  · exact kf h
theorem bX3_joined_106 {d : Nat} {b : Nat × Nat} {S : XS} {im : XI} {Q : Option Value → XS → XI → Prop} {l0 : Int32} {l1 : Int32} {l2 : Int32}  (k : V mX3_joined d b 111 [some (.int l0), some (.int l1), some (.int l2)] [.int (1 : Int32)] S im Q) : V mX3_joined d b 106 [some (.int l0), some (.int l1), some (.int l2)] [] S im Q := by
  refine V.iconst (v := 1) dX3_joined_106 (by decide) ?_
  refine V.goto (tgt := 111) dX3_joined_107 (by decide) ?_
  exact k
theorem bX3_joined_110 {d : Nat} {b : Nat × Nat} {S : XS} {im : XI} {Q : Option Value → XS → XI → Prop} {l0 : Int32} {l1 : Int32} {l2 : Int32}  (k : V mX3_joined d b 111 [some (.int l0), some (.int l1), some (.int l2)] [.int (0 : Int32)] S im Q) : V mX3_joined d b 110 [some (.int l0), some (.int l1), some (.int l2)] [] S im Q := by
  refine V.iconst (v := 0) dX3_joined_110 (by decide) ?_
  exact k
theorem bX3_joined_111 {d : Nat} {b : Nat × Nat} {S : XS} {im : XI} {Q : Option Value → XS → XI → Prop} {l0 : Int32} {l1 : Int32} {l2 : Int32} {s0 : Int32}  (hq : Q (some (.int s0)) S im) : V mX3_joined d b 111 [some (.int l0), some (.int l1), some (.int l2)] [.int s0] S im Q := by
  exact V.iret rfl dX3_joined_111 hq
theorem bX3_joined_112 {d : Nat} {b : Nat × Nat} {S : XS} {im : XI} {Q : Option Value → XS → XI → Prop} {l0 : Int32} {l1 : Int32} {l2 : Int32}  (kt : l2 ≤ l1 → V mX3_joined d b 121 [some (.int l0), some (.int l1), some (.int l2)] [] S im Q) (kf : ¬ l2 ≤ l1 → V mX3_joined d b 117 [some (.int l0), some (.int l1), some (.int l2)] [] S im Q) : V mX3_joined d b 112 [some (.int l0), some (.int l1), some (.int l2)] [] S im Q := by
  refine V.iload_n dX3_joined_112 rfl rfl ?_
  refine V.iload_n dX3_joined_113 rfl rfl ?_
  refine V.icmp_ge (tgt := 121) dX3_joined_114 (by decide) (fun h => ?_) (fun h => ?_)
  · exact kt h
  · exact kf h
theorem bX3_joined_117 {d : Nat} {b : Nat × Nat} {S : XS} {im : XI} {Q : Option Value → XS → XI → Prop} {l0 : Int32} {l1 : Int32} {l2 : Int32}  (k : V mX3_joined d b 122 [some (.int l0), some (.int l1), some (.int l2)] [.int (1 : Int32)] S im Q) : V mX3_joined d b 117 [some (.int l0), some (.int l1), some (.int l2)] [] S im Q := by
  refine V.iconst (v := 1) dX3_joined_117 (by decide) ?_
  refine V.goto (tgt := 122) dX3_joined_118 (by decide) ?_
  exact k
theorem bX3_joined_121 {d : Nat} {b : Nat × Nat} {S : XS} {im : XI} {Q : Option Value → XS → XI → Prop} {l0 : Int32} {l1 : Int32} {l2 : Int32}  (k : V mX3_joined d b 122 [some (.int l0), some (.int l1), some (.int l2)] [.int (0 : Int32)] S im Q) : V mX3_joined d b 121 [some (.int l0), some (.int l1), some (.int l2)] [] S im Q := by
  refine V.iconst (v := 0) dX3_joined_121 (by decide) ?_
  exact k
theorem bX3_joined_122 {d : Nat} {b : Nat × Nat} {S : XS} {im : XI} {Q : Option Value → XS → XI → Prop} {l0 : Int32} {l1 : Int32} {l2 : Int32} {s0 : Int32}  (hq : Q (some (.int s0)) S im) : V mX3_joined d b 122 [some (.int l0), some (.int l1), some (.int l2)] [.int s0] S im Q := by
  exact V.iret rfl dX3_joined_122 hq
theorem bX3_joined_123 {d : Nat} {b : Nat × Nat} {S : XS} {im : XI} {Q : Option Value → XS → XI → Prop} {l0 : Int32} {l1 : Int32} {l2 : Int32}  (kt : ¬ l1 = l2 → V mX3_joined d b 132 [some (.int l0), some (.int l1), some (.int l2)] [] S im Q) (kf : l1 = l2 → V mX3_joined d b 128 [some (.int l0), some (.int l1), some (.int l2)] [] S im Q) : V mX3_joined d b 123 [some (.int l0), some (.int l1), some (.int l2)] [] S im Q := by
  refine V.iload_n dX3_joined_123 rfl rfl ?_
  refine V.iload_n dX3_joined_124 rfl rfl ?_
  refine V.icmp_ne (tgt := 132) dX3_joined_125 (by decide) (fun h => ?_) (fun h => ?_)
  · exact kt h
  · exact kf h
theorem bX3_joined_128 {d : Nat} {b : Nat × Nat} {S : XS} {im : XI} {Q : Option Value → XS → XI → Prop} {l0 : Int32} {l1 : Int32} {l2 : Int32}  (k : V mX3_joined d b 133 [some (.int l0), some (.int l1), some (.int l2)] [.int (1 : Int32)] S im Q) : V mX3_joined d b 128 [some (.int l0), some (.int l1), some (.int l2)] [] S im Q := by
  refine V.iconst (v := 1) dX3_joined_128 (by decide) ?_
  refine V.goto (tgt := 133) dX3_joined_129 (by decide) ?_
  exact k
theorem bX3_joined_132 {d : Nat} {b : Nat × Nat} {S : XS} {im : XI} {Q : Option Value → XS → XI → Prop} {l0 : Int32} {l1 : Int32} {l2 : Int32}  (k : V mX3_joined d b 133 [some (.int l0), some (.int l1), some (.int l2)] [.int (0 : Int32)] S im Q) : V mX3_joined d b 132 [some (.int l0), some (.int l1), some (.int l2)] [] S im Q := by
  refine V.iconst (v := 0) dX3_joined_132 (by decide) ?_
  exact k
theorem bX3_joined_133 {d : Nat} {b : Nat × Nat} {S : XS} {im : XI} {Q : Option Value → XS → XI → Prop} {l0 : Int32} {l1 : Int32} {l2 : Int32} {s0 : Int32}  (hq : Q (some (.int s0)) S im) : V mX3_joined d b 133 [some (.int l0), some (.int l1), some (.int l2)] [.int s0] S im Q := by
  exact V.iret rfl dX3_joined_133 hq
theorem bX3_joined_134 {d : Nat} {b : Nat × Nat} {S : XS} {im : XI} {Q : Option Value → XS → XI → Prop} {l0 : Int32} {l1 : Int32} {l2 : Int32}  (kt : l1 ≤ l2 → V mX3_joined d b 143 [some (.int l0), some (.int l1), some (.int l2)] [] S im Q) (kf : ¬ l1 ≤ l2 → V mX3_joined d b 139 [some (.int l0), some (.int l1), some (.int l2)] [] S im Q) : V mX3_joined d b 134 [some (.int l0), some (.int l1), some (.int l2)] [] S im Q := by
  refine V.iload_n dX3_joined_134 rfl rfl ?_
  refine V.iload_n dX3_joined_135 rfl rfl ?_
  refine V.icmp_le (tgt := 143) dX3_joined_136 (by decide) (fun h => ?_) (fun h => ?_)
  · exact kt h
  · exact kf h
theorem bX3_joined_139 {d : Nat} {b : Nat × Nat} {S : XS} {im : XI} {Q : Option Value → XS → XI → Prop} {l0 : Int32} {l1 : Int32} {l2 : Int32}  (k : V mX3_joined d b 144 [some (.int l0), some (.int l1), some (.int l2)] [.int (1 : Int32)] S im Q) : V mX3_joined d b 139 [some (.int l0), some (.int l1), some (.int l2)] [] S im Q := by
  refine V.iconst (v := 1) dX3_joined_139 (by decide) ?_
  refine V.goto (tgt := 144) dX3_joined_140 (by decide) ?_
  exact k
theorem bX3_joined_143 {d : Nat} {b : Nat × Nat} {S : XS} {im : XI} {Q : Option Value → XS → XI → Prop} {l0 : Int32} {l1 : Int32} {l2 : Int32}  (k : V mX3_joined d b 144 [some (.int l0), some (.int l1), some (.int l2)] [.int (0 : Int32)] S im Q) : V mX3_joined d b 143 [some (.int l0), some (.int l1), some (.int l2)] [] S im Q := by
  refine V.iconst (v := 0) dX3_joined_143 (by decide) ?_
  exact k
theorem bX3_joined_144 {d : Nat} {b : Nat × Nat} {S : XS} {im : XI} {Q : Option Value → XS → XI → Prop} {l0 : Int32} {l1 : Int32} {l2 : Int32} {s0 : Int32}  (hq : Q (some (.int s0)) S im) : V mX3_joined d b 144 [some (.int l0), some (.int l1), some (.int l2)] [.int s0] S im Q := by
  exact V.iret rfl dX3_joined_144 hq
theorem bX3_joined_145 {d : Nat} {b : Nat × Nat} {S : XS} {im : XI} {Q : Option Value → XS → XI → Prop} {l0 : Int32} {l1 : Int32} {l2 : Int32}  (hq : Q (some (.int (l1 + l2))) S im) : V mX3_joined d b 145 [some (.int l0), some (.int l1), some (.int l2)] [] S im Q := by
  refine V.iload_n dX3_joined_145 rfl rfl ?_
  refine V.iload_n dX3_joined_146 rfl rfl ?_
  refine V.iadd dX3_joined_147 ?_
  exact V.iret rfl dX3_joined_148 hq
theorem bX3_joined_149 {d : Nat} {b : Nat × Nat} {S : XS} {im : XI} {Q : Option Value → XS → XI → Prop} {l0 : Int32} {l1 : Int32} {l2 : Int32}  (hq : Q (some (.int (l1 - l2))) S im) : V mX3_joined d b 149 [some (.int l0), some (.int l1), some (.int l2)] [] S im Q := by
  refine V.iload_n dX3_joined_149 rfl rfl ?_
  refine V.iload_n dX3_joined_150 rfl rfl ?_
  refine V.isub dX3_joined_151 ?_
  exact V.iret rfl dX3_joined_152 hq
theorem bX3_joined_153 {d : Nat} {b : Nat × Nat} {S : XS} {im : XI} {Q : Option Value → XS → XI → Prop} {l0 : Int32} {l1 : Int32} {l2 : Int32}  (hq : Q (some (.int (l1 * l2))) S im) : V mX3_joined d b 153 [some (.int l0), some (.int l1), some (.int l2)] [] S im Q := by
  refine V.iload_n dX3_joined_153 rfl rfl ?_
  refine V.iload_n dX3_joined_154 rfl rfl ?_
  refine V.imul dX3_joined_155 ?_
  exact V.iret rfl dX3_joined_156 hq
theorem bX3_joined_157 {d : Nat} {b : Nat × Nat} {S : XS} {im : XI} {Q : Option Value → XS → XI → Prop} {l0 : Int32} {l1 : Int32} {l2 : Int32}  (kt : ¬ l2 = 0 → V mX3_joined d b 165 [some (.int l0), some (.int l1), some (.int l2)] [] S im Q) (kf : l2 = 0 → V mX3_joined d b 161 [some (.int l0), some (.int l1), some (.int l2)] [] S im Q) : V mX3_joined d b 157 [some (.int l0), some (.int l1), some (.int l2)] [] S im Q := by
  refine V.iload_n dX3_joined_157 rfl rfl ?_
  refine V.if_ne (tgt := 165) dX3_joined_158 (by decide) (fun h => ?_) (fun h => ?_)
  · exact kt h
  · exact kf h
theorem bX3_joined_161 {d : Nat} {b : Nat × Nat} {S : XS} {im : XI} {Q : Option Value → XS → XI → Prop} {l0 : Int32} {l1 : Int32} {l2 : Int32}  (k : V mX3_joined d b 168 [some (.int l0), some (.int l1), some (.int l2)] [.int (0 : Int32)] S im Q) : V mX3_joined d b 161 [some (.int l0), some (.int l1), some (.int l2)] [] S im Q := by
  refine V.iconst (v := 0) dX3_joined_161 (by decide) ?_
  refine V.goto (tgt := 168) dX3_joined_162 (by decide) ?_
  exact k
theorem bX3_joined_165 {d : Nat} {b : Nat × Nat} {S : XS} {im : XI} {Q : Option Value → XS → XI → Prop} {l0 : Int32} {l1 : Int32} {l2 : Int32} (g0 : ¬ l2 = 0) (k : V mX3_joined d b 168 [some (.int l0), some (.int l1), some (.int l2)] [.int (l1 / l2)] S im Q) : V mX3_joined d b 165 [some (.int l0), some (.int l1), some (.int l2)] [] S im Q := by
  refine V.iload_n dX3_joined_165 rfl rfl ?_
  refine V.iload_n dX3_joined_166 rfl rfl ?_
  refine V.idiv dX3_joined_167 g0 ?_
  exact k
theorem bX3_joined_168 {d : Nat} {b : Nat × Nat} {S : XS} {im : XI} {Q : Option Value → XS → XI → Prop} {l0 : Int32} {l1 : Int32} {l2 : Int32} {s0 : Int32}  (hq : Q (some (.int s0)) S im) : V mX3_joined d b 168 [some (.int l0), some (.int l1), some (.int l2)] [.int s0] S im Q := by
  exact V.iret rfl dX3_joined_168 hq
theorem bX3_joined_169 {d : Nat} {b : Nat × Nat} {S : XS} {im : XI} {Q : Option Value → XS → XI → Prop} {l0 : Int32} {l1 : Int32} {l2 : Int32}  (kt : ¬ l2 = 0 → V mX3_joined d b 177 [some (.int l0), some (.int l1), some (.int l2)] [] S im Q) (kf : l2 = 0 → V mX3_joined d b 173 [some (.int l0), some (.int l1), some (.int l2)] [] S im Q) : V mX3_joined d b 169 [some (.int l0), some (.int l1), some (.int l2)] [] S im Q := by
  refine V.iload_n dX3_joined_169 rfl rfl ?_
  refine V.if_ne (tgt := 177) dX3_joined_170 (by decide) (fun h => ?_) (fun h => ?_)
  · exact kt h
  · exact kf h
theorem bX3_joined_173 {d : Nat} {b : Nat × Nat} {S : XS} {im : XI} {Q : Option Value → XS → XI → Prop} {l0 : Int32} {l1 : Int32} {l2 : Int32}  (k : V mX3_joined d b 180 [some (.int l0), some (.int l1), some (.int l2)] [.int (0 : Int32)] S im Q) : V mX3_joined d b 173 [some (.int l0), some (.int l1), some (.int l2)] [] S im Q := by
  refine V.iconst (v := 0) dX3_joined_173 (by decide) ?_
  refine V.goto (tgt := 180) dX3_joined_174 (by decide) ?_
  exact k
theorem bX3_joined_177 {d : Nat} {b : Nat × Nat} {S : XS} {im : XI} {Q : Option Value → XS → XI → Prop} {l0 : Int32} {l1 : Int32} {l2 : Int32} (g0 : ¬ l2 = 0) (k : V mX3_joined d b 180 [some (.int l0), some (.int l1), some (.int l2)] [.int (l1 - l1 / l2 * l2)] S im Q) : V mX3_joined d b 177 [some (.int l0), some (.int l1), some (.int l2)] [] S im Q := by
  refine V.iload_n dX3_joined_177 rfl rfl ?_
  refine V.iload_n dX3_joined_178 rfl rfl ?_
  refine V.irem dX3_joined_179 g0 ?_
  exact k
theorem bX3_joined_180 {d : Nat} {b : Nat × Nat} {S : XS} {im : XI} {Q : Option Value → XS → XI → Prop} {l0 : Int32} {l1 : Int32} {l2 : Int32} {s0 : Int32}  (hq : Q (some (.int s0)) S im) : V mX3_joined d b 180 [some (.int l0), some (.int l1), some (.int l2)] [.int s0] S im Q := by
  exact V.iret rfl dX3_joined_180 hq

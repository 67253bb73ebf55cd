theorem bX6_init_0 {d : Nat} {b : Nat × Nat} {S : XS} {im : XI} {Q : Option Value → XS → XI → Prop} {l0 : Nat} {l1 : Int32}  (k : V mX6_init (d + 1) b 4 [some (.ref l0), some (.int l1)] [] S im Q) : V mX6_init (d + 1) b 0 [some (.ref l0), some (.int l1)] [] S im Q := by
  refine V.aload_n dX6_init_0 rfl rfl ?_
  refine V.objInit rfl lkX6_1 xoi_in xoi_code rfl dX6_init_1 ?_
  exact k
theorem bX6_init_4 {d : Nat} {b : Nat × Nat} {S : XS} {im : XI} {Q : Option Value → XS → XI → Prop} {l0 : Nat} {l1 : Int32} {P : Int32 → XI → Prop}  (hs : SpI mJ9_max_7cf53 d [.int (0 : Int32), .int l1] S im P) (k : ∀ x2 im2, P x2 im2 → V mX6_init (d + 1) b 10 [some (.ref l0), some (.int l1)] [.int x2, .ref l0] S im2 Q) : V mX6_init (d + 1) b 4 [some (.ref l0), some (.int l1)] [] S im Q := by
  refine V.aload_n dX6_init_4 rfl rfl ?_
  refine V.iconst (v := 0) dX6_init_5 (by decide) ?_
  refine V.iload_n dX6_init_6 rfl rfl ?_
  refine V.cSI rfl vJ9_max_7cf53 lkX6_7 sJ9_max_7cf53 (As := [.int (0 : Int32), .int l1]) rfl rfl rfl dX6_init_7 hs (fun x2 im2 h2 => ?_)
  exact k x2 im2 h2
theorem bX6_init_10 {d : Nat} {b : Nat × Nat} {S : XS} {im : XI} {Q : Option Value → XS → XI → Prop} {l0 : Nat} {l1 : Int32} {s0 : Nat} {s1 : Int32} {i1 : Nat} {b1 : Nat × Nat} (g0 : s1 = nI i1) (g1 : Nat.blt i1 100000 = true) (g2 : 1 + b1.1 ≤ b.1 ∧ i1 + b1.2 ≤ b.2) (g3 : ((xpush S (.inr (.inl i1)))).1[s0]? = some (.inl 6)) (k : V mX6_init d b1 15 [some (.ref l0), some (.int l1)] [] (((xpush S (.inr (.inl i1)))).1, xur ((xpush S (.inr (.inl i1)))).2 s0 0 (some S.1.length)) (xz im S.1.length) Q) : V mX6_init d b 10 [some (.ref l0), some (.int l1)] [.int s1, .ref s0] S im Q := by
  refine V.newa (n := i1) g0 g1 xai g2 dX6_init_10 ?_
  refine V.putR fX6_13 (fun _ => ⟨rfl, TX6, 2, rfl⟩) rfl rfl g3 dX6_init_12 ?_
  exact k
theorem bX6_init_15 {d : Nat} {b : Nat × Nat} {S : XS} {im : XI} {Q : Option Value → XS → XI → Prop} {l0 : Nat} {l1 : Int32}  (hq : Q none S im) : V mX6_init d b 15 [some (.ref l0), some (.int l1)] [] S im Q := by
  exact V.vret rfl dX6_init_15 hq
theorem bX6_size_0 {d : Nat} {b : Nat × Nat} {S : XS} {im : XI} {Q : Option Value → XS → XI → Prop} {l0 : Nat} (g0 : S.1[l0]? = some (.inl 6)) (hq : Q (some (.int (im l0 1))) S im) : V mX6_size d b 0 [some (.ref l0)] [] S im Q := by
  refine V.aload_n dX6_size_0 rfl rfl ?_
  refine V.getI fX6_19 rfl g0 dX6_size_1 ?_
  exact V.iret rfl dX6_size_4 hq
theorem bX6_at_0 {d : Nat} {b : Nat × Nat} {S : XS} {im : XI} {Q : Option Value → XS → XI → Prop} {l0 : Nat} {l1 : Int32}  (kt : l1 < 0 → V mX6_at d b 21 [some (.ref l0), some (.int l1)] [] S im Q) (kf : ¬ l1 < 0 → V mX6_at d b 4 [some (.ref l0), some (.int l1)] [] S im Q) : V mX6_at d b 0 [some (.ref l0), some (.int l1)] [] S im Q := by
  refine V.iload_n dX6_at_0 rfl rfl ?_
  refine V.if_lt (tgt := 21) dX6_at_1 (by decide) (fun h => ?_) (fun h => ?_)
  · exact kt h
  · exact kf h
theorem bX6_at_4 {d : Nat} {b : Nat × Nat} {S : XS} {im : XI} {Q : Option Value → XS → XI → Prop} {l0 : Nat} {l1 : Int32} (g0 : S.1[l0]? = some (.inl 6)) (kt : (im l0 1) ≤ l1 → V mX6_at d b 21 [some (.ref l0), some (.int l1)] [] S im Q) (kf : ¬ (im l0 1) ≤ l1 → V mX6_at d b 12 [some (.ref l0), some (.int l1)] [] S im Q) : V mX6_at d b 4 [some (.ref l0), some (.int l1)] [] S im Q := by
  refine V.iload_n dX6_at_4 rfl rfl ?_
  refine V.aload_n dX6_at_5 rfl rfl ?_
  refine V.getI fX6_19 rfl g0 dX6_at_6 ?_
  refine V.icmp_ge (tgt := 21) dX6_at_9 (by decide) (fun h => ?_) (fun h => ?_)
  · exact kt h
  · exact kf h
theorem bX6_at_12 {d : Nat} {b : Nat × Nat} {S : XS} {im : XI} {Q : Option Value → XS → XI → Prop} {l0 : Nat} {l1 : Int32} {r1 : Nat} {n2 : Nat} {i3 : Nat} (g0 : S.1[l0]? = some (.inl 6)) (g1 : S.2 l0 0 = some r1) (g2 : XA S r1 n2) (g3 : l1 = nI i3) (g4 : i3 < n2) (k : V mX6_at d b 22 [some (.ref l0), some (.int l1)] [.int (im r1 i3)] S im Q) : V mX6_at d b 12 [some (.ref l0), some (.int l1)] [] S im Q := by
  refine V.aload_n dX6_at_12 rfl rfl ?_
  refine V.getR fX6_13 rfl g0 g1 dX6_at_13 ?_
  refine V.iload_n dX6_at_16 rfl rfl ?_
  refine V.iald (i := i3) g2 g3 g4 dX6_at_17 ?_
  refine V.goto (tgt := 22) dX6_at_18 (by decide) ?_
  exact k
theorem bX6_at_21 {d : Nat} {b : Nat × Nat} {S : XS} {im : XI} {Q : Option Value → XS → XI → Prop} {l0 : Nat} {l1 : Int32}  (k : V mX6_at d b 22 [some (.ref l0), some (.int l1)] [.int (0 : Int32)] S im Q) : V mX6_at d b 21 [some (.ref l0), some (.int l1)] [] S im Q := by
  refine V.iconst (v := 0) dX6_at_21 (by decide) ?_
  exact k
theorem bX6_at_22 {d : Nat} {b : Nat × Nat} {S : XS} {im : XI} {Q : Option Value → XS → XI → Prop} {l0 : Nat} {l1 : Int32} {s0 : Int32}  (hq : Q (some (.int s0)) S im) : V mX6_at d b 22 [some (.ref l0), some (.int l1)] [.int s0] S im Q := by
  exact V.iret rfl dX6_at_22 hq
theorem bX6_add_0 {d : Nat} {b : Nat × Nat} {S : XS} {im : XI} {Q : Option Value → XS → XI → Prop} {l0 : Nat} {l1 : Int32} {r1 : Nat} {n2 : Nat} (g0 : S.1[l0]? = some (.inl 6)) (g1 : S.2 l0 0 = some r1) (g2 : XA S r1 n2) (kt : (im l0 1) < (nI n2) → V mX6_add d b 14 [some (.ref l0), some (.int l1)] [] S im Q) (kf : ¬ (im l0 1) < (nI n2) → V mX6_add d b 12 [some (.ref l0), some (.int l1)] [] S im Q) : V mX6_add d b 0 [some (.ref l0), some (.int l1)] [] S im Q := by
  refine V.aload_n dX6_add_0 rfl rfl ?_
  refine V.getI fX6_19 rfl g0 dX6_add_1 ?_
  refine V.aload_n dX6_add_4 rfl rfl ?_
  refine V.getR fX6_13 rfl g0 g1 dX6_add_5 ?_
  refine V.alen g2 dX6_add_8 ?_
  refine V.icmp_lt (tgt := 14) dX6_add_9 (by decide) (fun h => ?_) (fun h => ?_)
  · exact kt h
  · exact kf h
theorem bX6_add_12 {d : Nat} {b : Nat × Nat} {S : XS} {im : XI} {Q : Option Value → XS → XI → Prop} {l0 : Nat} {l1 : Int32}  (hq : Q (some (.int (0 : Int32))) S im) : V mX6_add d b 12 [some (.ref l0), some (.int l1)] [] S im Q := by
  refine V.iconst (v := 0) dX6_add_12 (by decide) ?_
  exact V.zret rfl (by decide) dX6_add_13 hq
theorem bX6_add_14 {d : Nat} {b : Nat × Nat} {S : XS} {im : XI} {Q : Option Value → XS → XI → Prop} {l0 : Nat} {l1 : Int32} {r1 : Nat} {n2 : Nat} {i3 : Nat} (g0 : S.1[l0]? = some (.inl 6)) (g1 : S.2 l0 0 = some r1) (g2 : XA S r1 n2) (g3 : (im l0 1) = nI i3) (g4 : i3 < n2) (hq : Q (some (.int (1 : Int32))) S (xup (xup im r1 i3 l1) l0 1 (((xup im r1 i3 l1) l0 1) + (1 : Int32)))) : V mX6_add d b 14 [some (.ref l0), some (.int l1)] [] S im Q := by
  refine V.aload_n dX6_add_14 rfl rfl ?_
  refine V.getR fX6_13 rfl g0 g1 dX6_add_15 ?_
  refine V.aload_n dX6_add_18 rfl rfl ?_
  refine V.getI fX6_19 rfl g0 dX6_add_19 ?_
  refine V.iload_n dX6_add_22 rfl rfl ?_
  refine V.iast (i := i3) g2 g3 g4 dX6_add_23 ?_
  refine V.aload_n dX6_add_24 rfl rfl ?_
  refine V.dup dX6_add_25 rfl ?_
  refine V.getI fX6_19 rfl g0 dX6_add_26 ?_
  refine V.iconst (v := 1) dX6_add_29 (by decide) ?_
  refine V.iadd dX6_add_30 ?_
  refine V.putI fX6_19 (fun h => by cases h) rfl g0 dX6_add_31 ?_
  refine V.iconst (v := 1) dX6_add_34 (by decide) ?_
  exact V.zret rfl (by decide) dX6_add_35 hq
theorem bX6_change_0 {d : Nat} {b : Nat × Nat} {S : XS} {im : XI} {Q : Option Value → XS → XI → Prop} {l0 : Nat} {l1 : Int32} {l2 : Int32}  (kt : l1 < 0 → V mX6_change d b 19 [some (.ref l0), some (.int l1), some (.int l2)] [] S im Q) (kf : ¬ l1 < 0 → V mX6_change d b 4 [some (.ref l0), some (.int l1), some (.int l2)] [] S im Q) : V mX6_change d b 0 [some (.ref l0), some (.int l1), some (.int l2)] [] S im Q := by
  refine V.iload_n dX6_change_0 rfl rfl ?_
  refine V.if_lt (tgt := 19) dX6_change_1 (by decide) (fun h => ?_) (fun h => ?_)
  · exact kt h
  · exact kf h
theorem bX6_change_4 {d : Nat} {b : Nat × Nat} {S : XS} {im : XI} {Q : Option Value → XS → XI → Prop} {l0 : Nat} {l1 : Int32} {l2 : Int32} (g0 : S.1[l0]? = some (.inl 6)) (kt : (im l0 1) ≤ l1 → V mX6_change d b 19 [some (.ref l0), some (.int l1), some (.int l2)] [] S im Q) (kf : ¬ (im l0 1) ≤ l1 → V mX6_change d b 12 [some (.ref l0), some (.int l1), some (.int l2)] [] S im Q) : V mX6_change d b 4 [some (.ref l0), some (.int l1), some (.int l2)] [] S im Q := by
  refine V.iload_n dX6_change_4 rfl rfl ?_
  refine V.aload_n dX6_change_5 rfl rfl ?_
  refine V.getI fX6_19 rfl g0 dX6_change_6 ?_
  refine V.icmp_ge (tgt := 19) dX6_change_9 (by decide) (fun h => ?_) (fun h => ?_)
  · exact kt h
  · exact kf h
theorem bX6_change_12 {d : Nat} {b : Nat × Nat} {S : XS} {im : XI} {Q : Option Value → XS → XI → Prop} {l0 : Nat} {l1 : Int32} {l2 : Int32} {r1 : Nat} {n2 : Nat} {i3 : Nat} (g0 : S.1[l0]? = some (.inl 6)) (g1 : S.2 l0 0 = some r1) (g2 : XA S r1 n2) (g3 : l1 = nI i3) (g4 : i3 < n2) (k : V mX6_change d b 19 [some (.ref l0), some (.int l1), some (.int l2)] [] S (xup im r1 i3 l2) Q) : V mX6_change d b 12 [some (.ref l0), some (.int l1), some (.int l2)] [] S im Q := by
  refine V.aload_n dX6_change_12 rfl rfl ?_
  refine V.getR fX6_13 rfl g0 g1 dX6_change_13 ?_
  refine V.iload_n dX6_change_16 rfl rfl ?_
  refine V.iload_n dX6_change_17 rfl rfl ?_
  refine V.iast (i := i3) g2 g3 g4 dX6_change_18 ?_
  exact k
theorem bX6_change_19 {d : Nat} {b : Nat × Nat} {S : XS} {im : XI} {Q : Option Value → XS → XI → Prop} {l0 : Nat} {l1 : Int32} {l2 : Int32}  (hq : Q none S im) : V mX6_change d b 19 [some (.ref l0), some (.int l1), some (.int l2)] [] S im Q := by
  exact V.vret rfl dX6_change_19 hq
theorem bX6_clear_0 {d : Nat} {b : Nat × Nat} {S : XS} {im : XI} {Q : Option Value → XS → XI → Prop} {l0 : Nat} (g0 : S.1[l0]? = some (.inl 6)) (hq : Q none S (xup im l0 1 (0 : Int32))) : V mX6_clear d b 0 [some (.ref l0)] [] S im Q := by
  refine V.aload_n dX6_clear_0 rfl rfl ?_
  refine V.iconst (v := 0) dX6_clear_1 (by decide) ?_
  refine V.putI fX6_19 (fun h => by cases h) rfl g0 dX6_clear_2 ?_
  exact V.vret rfl dX6_clear_5 hq
theorem bX6_beZeros_0 {d : Nat} {b : Nat × Nat} {S : XS} {im : XI} {Q : Option Value → XS → XI → Prop} {l0 : Nat} {l1 : Int32} {P : XI → Prop} (g0 : S.1[l0]? = some (.inl 6)) (hs : SpV mX6_clear d [.ref l0] S im P) (k : ∀ im2, P im2 → V mX6_beZeros (d + 1) b 4 [some (.ref l0), some (.int l1), none] [] S im2 Q) : V mX6_beZeros (d + 1) b 0 [some (.ref l0), some (.int l1), none] [] S im Q := by
  refine V.aload_n dX6_beZeros_0 rfl rfl ?_
  refine V.cVV rfl vX6_clear lkX6_23 wX6_clear (ci := 6) rfl g0 (As := []) rfl rfl rfl dX6_beZeros_1 hs (fun im2 h2 => ?_)
  exact k im2 h2
theorem bX6_beZeros_4 {d : Nat} {b : Nat × Nat} {S : XS} {im : XI} {Q : Option Value → XS → XI → Prop} {l0 : Nat} {l1 : Int32}  (k : V mX6_beZeros d b 6 [some (.ref l0), some (.int l1), some (.int (0 : Int32))] [] S im Q) : V mX6_beZeros d b 4 [some (.ref l0), some (.int l1), none] [] S im Q := by
  refine V.iconst (v := 0) dX6_beZeros_4 (by decide) ?_
  refine V.istore_n dX6_beZeros_5 rfl rfl rfl ?_
  exact k
theorem bX6_beZeros_6 {d : Nat} {b : Nat × Nat} {S : XS} {im : XI} {Q : Option Value → XS → XI → Prop} {l0 : Nat} {l1 : Int32} {l2 : Int32}  (kt : l1 ≤ l2 → V mX6_beZeros d b 23 [some (.ref l0), some (.int l1), some (.int l2)] [] S im Q) (kf : ¬ l1 ≤ l2 → V mX6_beZeros d b 11 [some (.ref l0), some (.int l1), some (.int l2)] [] S im Q) : V mX6_beZeros d b 6 [some (.ref l0), some (.int l1), some (.int l2)] [] S im Q := by
  refine V.iload_n dX6_beZeros_6 rfl rfl ?_
  refine V.iload_n dX6_beZeros_7 rfl rfl ?_
  refine V.icmp_ge (tgt := 23) dX6_beZeros_8 (by decide) (fun h => ?_) (fun h => ?_)
  · exact kt h
  · exact kf h
theorem bX6_beZeros_11 {d : Nat} {b : Nat × Nat} {S : XS} {im : XI} {Q : Option Value → XS → XI → Prop} {l0 : Nat} {l1 : Int32} {l2 : Int32} {P : Int32 → XI → Prop} (g0 : S.1[l0]? = some (.inl 6)) (hs : SpI mX6_add d [.ref l0, .int (0 : Int32)] S im P) (k : ∀ x2 im2, P x2 im2 → V mX6_beZeros (d + 1) b 16 [some (.ref l0), some (.int l1), some (.int l2)] [.int x2] S im2 Q) : V mX6_beZeros (d + 1) b 11 [some (.ref l0), some (.int l1), some (.int l2)] [] S im Q := by
  refine V.aload_n dX6_beZeros_11 rfl rfl ?_
  refine V.iconst (v := 0) dX6_beZeros_12 (by decide) ?_
  refine V.cVI rfl vX6_add lkX6_26 wX6_add (ci := 6) rfl g0 (As := [.int (0 : Int32)]) rfl rfl rfl dX6_beZeros_13 hs (fun x2 im2 h2 => ?_)
  exact k x2 im2 h2
theorem bX6_beZeros_16 {d : Nat} {b : Nat × Nat} {S : XS} {im : XI} {Q : Option Value → XS → XI → Prop} {l0 : Nat} {l1 : Int32} {l2 : Int32} {s0 : Int32}  (k : V mX6_beZeros d b 6 [some (.ref l0), some (.int l1), some (.int (l2 + (1 : Int32)))] [] S im Q) : V mX6_beZeros d b 16 [some (.ref l0), some (.int l1), some (.int l2)] [.int s0] S im Q := by
  refine V.pop dX6_beZeros_16 rfl ?_
  refine V.iinc (v := (l2 + (1 : Int32))) dX6_beZeros_17 rfl rfl rfl ?_
  refine V.goto (tgt := 6) dX6_beZeros_20 (by decide) ?_
  exact k
theorem bX6_beZeros_23 {d : Nat} {b : Nat × Nat} {S : XS} {im : XI} {Q : Option Value → XS → XI → Prop} {l0 : Nat} {l1 : Int32} {l2 : Int32}  (hq : Q none S im) : V mX6_beZeros d b 23 [some (.ref l0), some (.int l1), some (.int l2)] [] S im Q := by
  exact V.vret rfl dX6_beZeros_23 hq
theorem bX6_spans_0 {d : Nat} {b : Nat × Nat} {S : XS} {im : XI} {Q : Option Value → XS → XI → Prop} {l0 : Nat} {l1 : Int32} {l2 : Int32}  (kt : l1 < 0 → V mX6_spans d b 30 [some (.ref l0), some (.int l1), some (.int l2)] [] S im Q) (kf : ¬ l1 < 0 → V mX6_spans d b 4 [some (.ref l0), some (.int l1), some (.int l2)] [] S im Q) : V mX6_spans d b 0 [some (.ref l0), some (.int l1), some (.int l2)] [] S im Q := by
  refine V.iload_n dX6_spans_0 rfl rfl ?_
  refine V.if_lt (tgt := 30) dX6_spans_1 (by decide) (fun h => ?_) (fun h => ?_)
  · exact kt h
  · exact kf h
theorem bX6_spans_4 {d : Nat} {b : Nat × Nat} {S : XS} {im : XI} {Q : Option Value → XS → XI → Prop} {l0 : Nat} {l1 : Int32} {l2 : Int32}  (kt : l2 < 0 → V mX6_spans d b 30 [some (.ref l0), some (.int l1), some (.int l2)] [] S im Q) (kf : ¬ l2 < 0 → V mX6_spans d b 8 [some (.ref l0), some (.int l1), some (.int l2)] [] S im Q) : V mX6_spans d b 4 [some (.ref l0), some (.int l1), some (.int l2)] [] S im Q := by
  refine V.iload_n dX6_spans_4 rfl rfl ?_
  refine V.if_lt (tgt := 30) dX6_spans_5 (by decide) (fun h => ?_) (fun h => ?_)
  · exact kt h
  · exact kf h
theorem bX6_spans_8 {d : Nat} {b : Nat × Nat} {S : XS} {im : XI} {Q : Option Value → XS → XI → Prop} {l0 : Nat} {l1 : Int32} {l2 : Int32} (g0 : S.1[l0]? = some (.inl 6)) (kt : (im l0 1) < l1 → V mX6_spans d b 30 [some (.ref l0), some (.int l1), some (.int l2)] [] S im Q) (kf : ¬ (im l0 1) < l1 → V mX6_spans d b 16 [some (.ref l0), some (.int l1), some (.int l2)] [] S im Q) : V mX6_spans d b 8 [some (.ref l0), some (.int l1), some (.int l2)] [] S im Q := by
  refine V.iload_n dX6_spans_8 rfl rfl ?_
  refine V.aload_n dX6_spans_9 rfl rfl ?_
  refine V.getI fX6_19 rfl g0 dX6_spans_10 ?_
  refine V.icmp_gt (tgt := 30) dX6_spans_13 (by decide) (fun h => ?_) (fun h => ?_)
  · exact kt h
  · exact kf h
theorem bX6_spans_16 {d : Nat} {b : Nat × Nat} {S : XS} {im : XI} {Q : Option Value → XS → XI → Prop} {l0 : Nat} {l1 : Int32} {l2 : Int32} (g0 : S.1[l0]? = some (.inl 6)) (kt : ((im l0 1) - l1) < l2 → V mX6_spans d b 30 [some (.ref l0), some (.int l1), some (.int l2)] [] S im Q) (kf : ¬ ((im l0 1) - l1) < l2 → V mX6_spans d b 26 [some (.ref l0), some (.int l1), some (.int l2)] [] S im Q) : V mX6_spans d b 16 [some (.ref l0), some (.int l1), some (.int l2)] [] S im Q := by
  refine V.iload_n dX6_spans_16 rfl rfl ?_
  refine V.aload_n dX6_spans_17 rfl rfl ?_
  refine V.getI fX6_19 rfl g0 dX6_spans_18 ?_
  refine V.iload_n dX6_spans_21 rfl rfl ?_
  refine V.isub dX6_spans_22 ?_
  refine V.icmp_gt (tgt := 30) dX6_spans_23 (by decide) (fun h => ?_) (fun h => ?_)
  · exact kt h
  · exact kf h
theorem bX6_spans_26 {d : Nat} {b : Nat × Nat} {S : XS} {im : XI} {Q : Option Value → XS → XI → Prop} {l0 : Nat} {l1 : Int32} {l2 : Int32}  (k : V mX6_spans d b 31 [some (.ref l0), some (.int l1), some (.int l2)] [.int (1 : Int32)] S im Q) : V mX6_spans d b 26 [some (.ref l0), some (.int l1), some (.int l2)] [] S im Q := by
  refine V.iconst (v := 1) dX6_spans_26 (by decide) ?_
  refine V.goto (tgt := 31) dX6_spans_27 (by decide) ?_
  exact k
theorem bX6_spans_30 {d : Nat} {b : Nat × Nat} {S : XS} {im : XI} {Q : Option Value → XS → XI → Prop} {l0 : Nat} {l1 : Int32} {l2 : Int32}  (k : V mX6_spans d b 31 [some (.ref l0), some (.int l1), some (.int l2)] [.int (0 : Int32)] S im Q) : V mX6_spans d b 30 [some (.ref l0), some (.int l1), some (.int l2)] [] S im Q := by
  refine V.iconst (v := 0) dX6_spans_30 (by decide) ?_
  exact k
theorem bX6_spans_31 {d : Nat} {b : Nat × Nat} {S : XS} {im : XI} {Q : Option Value → XS → XI → Prop} {l0 : Nat} {l1 : Int32} {l2 : Int32} {s0 : Int32} (g0 : s0 = 0 ∨ s0 = 1) (hq : Q (some (.int s0)) S im) : V mX6_spans d b 31 [some (.ref l0), some (.int l1), some (.int l2)] [.int s0] S im Q := by
  exact V.zret rfl g0 dX6_spans_31 hq
theorem bX6_takeFrom_0 {d : Nat} {b : Nat × Nat} {S : XS} {im : XI} {Q : Option Value → XS → XI → Prop} {l0 : Nat} {l1 : Nat} {l2 : Int32} {l3 : Int32} {l4 : Int32} {P : Int32 → XI → Prop} (g0 : S.1[l1]? = some (.inl 6)) (hs : SpI mX6_spans d [.ref l1, .int l2, .int l4] S im P) (k : ∀ x2 im2, P x2 im2 → V mX6_takeFrom (d + 1) b 7 [some (.ref l0), some (.ref l1), some (.int l2), some (.int l3), some (.int l4)] [.int x2] S im2 Q) : V mX6_takeFrom (d + 1) b 0 [some (.ref l0), some (.ref l1), some (.int l2), some (.int l3), some (.int l4)] [] S im Q := by
  refine V.aload_n dX6_takeFrom_0 rfl rfl ?_
  refine V.iload_n dX6_takeFrom_1 rfl rfl ?_
  refine V.iload dX6_takeFrom_2 rfl ?_
  refine V.cVI rfl vX6_spans lkX6_30 wX6_spans (ci := 6) rfl g0 (As := [.int l2, .int l4]) rfl rfl rfl dX6_takeFrom_4 hs (fun x2 im2 h2 => ?_)
  exact k x2 im2 h2
theorem bX6_takeFrom_7 {d : Nat} {b : Nat × Nat} {S : XS} {im : XI} {Q : Option Value → XS → XI → Prop} {l0 : Nat} {l1 : Nat} {l2 : Int32} {l3 : Int32} {l4 : Int32} {s0 : Int32}  (kt : s0 = 0 → V mX6_takeFrom d b 35 [some (.ref l0), some (.ref l1), some (.int l2), some (.int l3), some (.int l4)] [] S im Q) (kf : ¬ s0 = 0 → V mX6_takeFrom d b 10 [some (.ref l0), some (.ref l1), some (.int l2), some (.int l3), some (.int l4)] [] S im Q) : V mX6_takeFrom d b 7 [some (.ref l0), some (.ref l1), some (.int l2), some (.int l3), some (.int l4)] [.int s0] S im Q := by
  refine V.if_eq (tgt := 35) dX6_takeFrom_7 (by decide) (fun h => ?_) (fun h => ?_)
  · exact kt h
  · exact kf h
theorem bX6_takeFrom_10 {d : Nat} {b : Nat × Nat} {S : XS} {im : XI} {Q : Option Value → XS → XI → Prop} {l0 : Nat} {l1 : Nat} {l2 : Int32} {l3 : Int32} {l4 : Int32} {P : Int32 → XI → Prop} (g0 : S.1[l0]? = some (.inl 6)) (hs : SpI mX6_spans d [.ref l0, .int l3, .int l4] S im P) (k : ∀ x2 im2, P x2 im2 → V mX6_takeFrom (d + 1) b 17 [some (.ref l0), some (.ref l1), some (.int l2), some (.int l3), some (.int l4)] [.int x2] S im2 Q) : V mX6_takeFrom (d + 1) b 10 [some (.ref l0), some (.ref l1), some (.int l2), some (.int l3), some (.int l4)] [] S im Q := by
  refine V.aload_n dX6_takeFrom_10 rfl rfl ?_
  refine V.iload_n dX6_takeFrom_11 rfl rfl ?_
  refine V.iload dX6_takeFrom_12 rfl ?_
  refine V.cVI rfl vX6_spans lkX6_30 wX6_spans (ci := 6) rfl g0 (As := [.int l3, .int l4]) rfl rfl rfl dX6_takeFrom_14 hs (fun x2 im2 h2 => ?_)
  exact k x2 im2 h2
theorem bX6_takeFrom_17 {d : Nat} {b : Nat × Nat} {S : XS} {im : XI} {Q : Option Value → XS → XI → Prop} {l0 : Nat} {l1 : Nat} {l2 : Int32} {l3 : Int32} {l4 : Int32} {s0 : Int32}  (kt : s0 = 0 → V mX6_takeFrom d b 35 [some (.ref l0), some (.ref l1), some (.int l2), some (.int l3), some (.int l4)] [] S im Q) (kf : ¬ s0 = 0 → V mX6_takeFrom d b 20 [some (.ref l0), some (.ref l1), some (.int l2), some (.int l3), some (.int l4)] [] S im Q) : V mX6_takeFrom d b 17 [some (.ref l0), some (.ref l1), some (.int l2), some (.int l3), some (.int l4)] [.int s0] S im Q := by
  refine V.if_eq (tgt := 35) dX6_takeFrom_17 (by decide) (fun h => ?_) (fun h => ?_)
  · exact kt h
  · exact kf h
theorem bX6_takeFrom_20 {d : Nat} {b : Nat × Nat} {S : XS} {im : XI} {Q : Option Value → XS → XI → Prop} {l0 : Nat} {l1 : Nat} {l2 : Int32} {l3 : Int32} {l4 : Int32} {r1 : Nat} {r2 : Nat} {n3 : Nat} {n4 : Nat} {i5 : Nat} {i6 : Nat} {i7 : Nat} (g0 : S.1[l1]? = some (.inl 6)) (g1 : S.2 l1 0 = some r1) (g2 : S.1[l0]? = some (.inl 6)) (g3 : S.2 l0 0 = some r2) (g4 : XA S r1 n3) (g5 : XA S r2 n4) (g6 : l2 = nI i5) (g7 : l3 = nI i6) (g8 : l4 = nI i7) (g9 : i5 + i7 ≤ n3) (g10 : i6 + i7 ≤ n4) (k : V mX6_takeFrom (d + 1) b 35 [some (.ref l0), some (.ref l1), some (.int l2), some (.int l3), some (.int l4)] [] S (xcp im r1 i5 r2 i6 i7) Q) : V mX6_takeFrom (d + 1) b 20 [some (.ref l0), some (.ref l1), some (.int l2), some (.int l3), some (.int l4)] [] S im Q := by
  refine V.aload_n dX6_takeFrom_20 rfl rfl ?_
  refine V.getR fX6_13 rfl g0 g1 dX6_takeFrom_21 ?_
  refine V.iload_n dX6_takeFrom_24 rfl rfl ?_
  refine V.aload_n dX6_takeFrom_25 rfl rfl ?_
  refine V.getR fX6_13 rfl g2 g3 dX6_takeFrom_26 ?_
  refine V.iload_n dX6_takeFrom_29 rfl rfl ?_
  refine V.iload dX6_takeFrom_30 rfl ?_
  refine V.copy rfl lkX6_34 xac_nat xac_sta xac_ini g4 g5 g6 g7 g8 g9 g10 rfl dX6_takeFrom_32 ?_
  exact k
theorem bX6_takeFrom_35 {d : Nat} {b : Nat × Nat} {S : XS} {im : XI} {Q : Option Value → XS → XI → Prop} {l0 : Nat} {l1 : Nat} {l2 : Int32} {l3 : Int32} {l4 : Int32}  (hq : Q none S im) : V mX6_takeFrom d b 35 [some (.ref l0), some (.ref l1), some (.int l2), some (.int l3), some (.int l4)] [] S im Q := by
  exact V.vret rfl dX6_takeFrom_35 hq
theorem bX6_beLike_0 {d : Nat} {b : Nat × Nat} {S : XS} {im : XI} {Q : Option Value → XS → XI → Prop} {l0 : Nat} {l1 : Nat} {P : XI → Prop} (g0 : S.1[l1]? = some (.inl 6)) (g1 : S.1[l0]? = some (.inl 6)) (hs : SpV mX6_beZeros d [.ref l0, .int (im l1 1)] S im P) (k : ∀ im2, P im2 → V mX6_beLike (d + 1) b 8 [some (.ref l0), some (.ref l1)] [] S im2 Q) : V mX6_beLike (d + 1) b 0 [some (.ref l0), some (.ref l1)] [] S im Q := by
  refine V.aload_n dX6_beLike_0 rfl rfl ?_
  refine V.aload_n dX6_beLike_1 rfl rfl ?_
  refine V.getI fX6_19 rfl g0 dX6_beLike_2 ?_
  refine V.cVV rfl vX6_beZeros lkX6_40 wX6_beZeros (ci := 6) rfl g1 (As := [.int (im l1 1)]) rfl rfl rfl dX6_beLike_5 hs (fun im2 h2 => ?_)
  exact k im2 h2
theorem bX6_beLike_8 {d : Nat} {b : Nat × Nat} {S : XS} {im : XI} {Q : Option Value → XS → XI → Prop} {l0 : Nat} {l1 : Nat} {P : XI → Prop} (g0 : S.1[l1]? = some (.inl 6)) (g1 : S.1[l0]? = some (.inl 6)) (hs : SpV mX6_takeFrom d [.ref l0, .ref l1, .int (0 : Int32), .int (0 : Int32), .int (im l1 1)] S im P) (k : ∀ im2, P im2 → V mX6_beLike (d + 1) b 19 [some (.ref l0), some (.ref l1)] [] S im2 Q) : V mX6_beLike (d + 1) b 8 [some (.ref l0), some (.ref l1)] [] S im Q := by
  refine V.aload_n dX6_beLike_8 rfl rfl ?_
  refine V.aload_n dX6_beLike_9 rfl rfl ?_
  refine V.iconst (v := 0) dX6_beLike_10 (by decide) ?_
  refine V.iconst (v := 0) dX6_beLike_11 (by decide) ?_
  refine V.aload_n dX6_beLike_12 rfl rfl ?_
  refine V.getI fX6_19 rfl g0 dX6_beLike_13 ?_
  refine V.cVV rfl vX6_takeFrom lkX6_44 wX6_takeFrom (ci := 6) rfl g1 (As := [.ref l1, .int (0 : Int32), .int (0 : Int32), .int (im l1 1)]) rfl rfl rfl dX6_beLike_16 hs (fun im2 h2 => ?_)
  exact k im2 h2
theorem bX6_beLike_19 {d : Nat} {b : Nat × Nat} {S : XS} {im : XI} {Q : Option Value → XS → XI → Prop} {l0 : Nat} {l1 : Nat}  (hq : Q none S im) : V mX6_beLike d b 19 [some (.ref l0), some (.ref l1)] [] S im Q := by
  exact V.vret rfl dX6_beLike_19 hq

theorem bX7_init_0 {d : Nat} {b : Nat × Nat} {S : XS} {im : XI} {Q : Option Value → XS → XI → Prop} {l0 : Nat}  (k : V mX7_init (d + 1) b 4 [some (.ref l0)] [] S im Q) : V mX7_init (d + 1) b 0 [some (.ref l0)] [] S im Q := by
  refine V.aload_n dX7_init_0 rfl rfl ?_
  refine V.objInit rfl lkX7_3 xoi_in xoi_code rfl dX7_init_1 ?_
  exact k
theorem bX7_init_4 {d : Nat} {b : Nat × Nat} {S : XS} {im : XI} {Q : Option Value → XS → XI → Prop} {l0 : Nat} {b1 : Nat × Nat} {P : XS → XI → Prop} {bc be : Nat × Nat} (g0 : 1 + b1.1 ≤ b.1 ∧ 2 + b1.2 ≤ b.2) (hs : SpC mX6_init d bc [.ref S.1.length, .int (24 : Int32)] (xpush S (.inl 6)) (xz im S.1.length) P) (hbud : bc.1 + be.1 ≤ b1.1 ∧ bc.2 + be.2 ≤ b1.2) (hP : ∀ S2 im2, P S2 im2 → S2.1.length = ((xpush S (.inl 6))).1.length + bc.1) (k : ∀ S2 im2, P S2 im2 → V mX7_init (d + 1) be 14 [some (.ref l0)] [.ref S.1.length, .ref l0] S2 im2 Q) : V mX7_init (d + 1) b 4 [some (.ref l0)] [] S im Q := by
  refine V.aload_n dX7_init_4 rfl rfl ?_
  refine V.new (ci := 6) rfl nwX7_9.1 nwX7_9.2.1 nwX7_9.2.2 g0 dX7_init_5 ?_
  refine V.dup dX7_init_8 rfl ?_
  refine V.bipush (v := 24) dX7_init_9 (by decide) ?_
  refine V.cC rfl vX6_init lkX7_11 wX6_init rfl rfl (As := [.int (24 : Int32)]) rfl rfl rfl dX7_init_11 hs hbud hP (fun S2 im2 h2 => ?_)
  exact k S2 im2 h2
theorem bX7_init_14 {d : Nat} {b : Nat × Nat} {S : XS} {im : XI} {Q : Option Value → XS → XI → Prop} {l0 : Nat} {s0 : Nat} {s1 : Nat} (g0 : S.1[s0]? = some (.inl 7)) (k : V mX7_init d b 17 [some (.ref l0)] [] (S.1, xur S.2 s0 0 (some s1)) im Q) : V mX7_init d b 14 [some (.ref l0)] [.ref s1, .ref s0] S im Q := by
  refine V.putR fX7_14 (fun _ => ⟨rfl, TX7, 2, rfl⟩) rfl rfl g0 dX7_init_14 ?_
  exact k
theorem bX7_init_17 {d : Nat} {b : Nat × Nat} {S : XS} {im : XI} {Q : Option Value → XS → XI → Prop} {l0 : Nat}  (hq : Q none S im) : V mX7_init d b 17 [some (.ref l0)] [] S im Q := by
  exact V.vret rfl dX7_init_17 hq
theorem bX7_isMissing_0 {d : Nat} {b : Nat × Nat} {S : XS} {im : XI} {Q : Option Value → XS → XI → Prop} {l0 : Nat} (g0 : S.1[l0]? = some (.inl 7)) (kt : ¬ (im l0 1) = 0 → V mX7_isMissing d b 11 [some (.ref l0)] [] S im Q) (kf : (im l0 1) = 0 → V mX7_isMissing d b 7 [some (.ref l0)] [] S im Q) : V mX7_isMissing d b 0 [some (.ref l0)] [] S im Q := by
  refine V.aload_n dX7_isMissing_0 rfl rfl ?_
  refine V.getI fX7_20 rfl g0 dX7_isMissing_1 ?_
  refine V.if_ne (tgt := 11) dX7_isMissing_4 (by decide) (fun h => ?_) (fun h => ?_)
  · exact kt h
  · exact kf h
theorem bX7_isMissing_7 {d : Nat} {b : Nat × Nat} {S : XS} {im : XI} {Q : Option Value → XS → XI → Prop} {l0 : Nat}  (k : V mX7_isMissing d b 12 [some (.ref l0)] [.int (1 : Int32)] S im Q) : V mX7_isMissing d b 7 [some (.ref l0)] [] S im Q := by
  refine V.iconst (v := 1) dX7_isMissing_7 (by decide) ?_
  refine V.goto (tgt := 12) dX7_isMissing_8 (by decide) ?_
  exact k
theorem bX7_isMissing_11 {d : Nat} {b : Nat × Nat} {S : XS} {im : XI} {Q : Option Value → XS → XI → Prop} {l0 : Nat}  (k : V mX7_isMissing d b 12 [some (.ref l0)] [.int (0 : Int32)] S im Q) : V mX7_isMissing d b 11 [some (.ref l0)] [] S im Q := by
  refine V.iconst (v := 0) dX7_isMissing_11 (by decide) ?_
  exact k
theorem bX7_isMissing_12 {d : Nat} {b : Nat × Nat} {S : XS} {im : XI} {Q : Option Value → XS → XI → Prop} {l0 : Nat} {s0 : Int32} (g0 : s0 = 0 ∨ s0 = 1) (hq : Q (some (.int s0)) S im) : V mX7_isMissing d b 12 [some (.ref l0)] [.int s0] S im Q := by
  exact V.zret rfl g0 dX7_isMissing_12 hq
theorem bX7_renew_0 {d : Nat} {b : Nat × Nat} {S : XS} {im : XI} {Q : Option Value → XS → XI → Prop} {l0 : Nat} {l1 : Int32} {l2 : Int32} {r1 : Nat} {P : XI → Prop} (g0 : S.1[l0]? = some (.inl 7)) (g1 : S.2 l0 0 = some r1) (g2 : S.1[r1]? = some (.inl 6)) (hs : SpV mX6_beZeros d [.ref r1, .int l2] S (xup im l0 1 l1) P) (k : ∀ im2, P im2 → V mX7_renew (d + 1) b 13 [some (.ref l0), some (.int l1), some (.int l2)] [] S im2 Q) : V mX7_renew (d + 1) b 0 [some (.ref l0), some (.int l1), some (.int l2)] [] S im Q := by
  refine V.aload_n dX7_renew_0 rfl rfl ?_
  refine V.iload_n dX7_renew_1 rfl rfl ?_
  refine V.putI fX7_20 (fun h => by cases h) rfl g0 dX7_renew_2 ?_
  refine V.aload_n dX7_renew_5 rfl rfl ?_
  refine V.getR fX7_14 rfl g0 g1 dX7_renew_6 ?_
  refine V.iload_n dX7_renew_9 rfl rfl ?_
  refine V.cVV rfl vX6_beZeros lkX7_24 wX6_beZeros (ci := 6) rfl g2 (As := [.int l2]) rfl rfl rfl dX7_renew_10 hs (fun im2 h2 => ?_)
  exact k im2 h2
theorem bX7_renew_13 {d : Nat} {b : Nat × Nat} {S : XS} {im : XI} {Q : Option Value → XS → XI → Prop} {l0 : Nat} {l1 : Int32} {l2 : Int32}  (hq : Q none S im) : V mX7_renew d b 13 [some (.ref l0), some (.int l1), some (.int l2)] [] S im Q := by
  exact V.vret rfl dX7_renew_13 hq
theorem bX7_lowestBits_0 {d : Nat} {b : Nat × Nat} {S : XS} {im : XI} {Q : Option Value → XS → XI → Prop} {l0 : Nat} {l1 : Int32} (g0 : S.1[l0]? = some (.inl 7)) (k0 : (im l0 1) = 8 → V mX7_lowestBits d b 32 [some (.ref l0), some (.int l1)] [] S im Q) (k1 : (im l0 1) = 16 → V mX7_lowestBits d b 38 [some (.ref l0), some (.int l1)] [] S im Q) (kd : ¬ (im l0 1) = 8 → ¬ (im l0 1) = 16 → V mX7_lowestBits d b 43 [some (.ref l0), some (.int l1)] [] S im Q) : V mX7_lowestBits d b 0 [some (.ref l0), some (.int l1)] [] S im Q := by
  refine V.aload_n dX7_lowestBits_0 rfl rfl ?_
  refine V.getI fX7_20 rfl g0 dX7_lowestBits_1 ?_
  by_cases c0 : (im l0 1) = 8
  · exact V.lookup (tgt := 32) (off := 28) dX7_lowestBits_4 rfl (by rw [c0] <;> rfl) (by decide) (k0 c0)
  · skip
    by_cases c1 : (im l0 1) = 16
    · exact V.lookup (tgt := 38) (off := 34) dX7_lowestBits_4 rfl (by rw [c1] <;> rfl) (by decide) (k1 c1)
    · skip
      exact V.lookup (tgt := 43) (off := 39) dX7_lowestBits_4 rfl ((lv_osw c0 rfl).trans ((lv_osw c1 rfl).trans rfl)) (by decide) (kd c0 c1)
theorem bX7_lowestBits_32 {d : Nat} {b : Nat × Nat} {S : XS} {im : XI} {Q : Option Value → XS → XI → Prop} {l0 : Nat} {l1 : Int32}  (hq : Q (some (.int (l1 &&& (255 : Int32)))) S im) : V mX7_lowestBits d b 32 [some (.ref l0), some (.int l1)] [] S im Q := by
  refine V.iload_n dX7_lowestBits_32 rfl rfl ?_
  refine V.sipush (v := 255) dX7_lowestBits_33 (by decide) ?_
  refine V.iand dX7_lowestBits_36 ?_
  exact V.iret rfl dX7_lowestBits_37 hq
theorem bX7_lowestBits_38 {d : Nat} {b : Nat × Nat} {S : XS} {im : XI} {Q : Option Value → XS → XI → Prop} {l0 : Nat} {l1 : Int32}  (hq : Q (some (.int (l1 &&& (65535 : Int32)))) S im) : V mX7_lowestBits d b 38 [some (.ref l0), some (.int l1)] [] S im Q := by
  refine V.iload_n dX7_lowestBits_38 rfl rfl ?_
  refine V.ldc kX7_27 dX7_lowestBits_39 ?_
  refine V.iand dX7_lowestBits_41 ?_
  exact V.iret rfl dX7_lowestBits_42 hq
theorem bX7_lowestBits_43 {d : Nat} {b : Nat × Nat} {S : XS} {im : XI} {Q : Option Value → XS → XI → Prop} {l0 : Nat} {l1 : Int32}  (hq : Q (some (.int l1)) S im) : V mX7_lowestBits d b 43 [some (.ref l0), some (.int l1)] [] S im Q := by
  refine V.iload_n dX7_lowestBits_43 rfl rfl ?_
  exact V.iret rfl dX7_lowestBits_44 hq

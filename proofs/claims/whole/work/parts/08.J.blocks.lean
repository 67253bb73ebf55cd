theorem bJ6_bitCount_0f7a4_0 {d : Nat} {b : Nat × Nat} {S : XS} {im : XI} {Q : Option Value → XS → XI → Prop} {l0 : Int32}  (hq : Q (some (.int ((((((((l0 - (((l0).toUInt32 >>> (((1 : Int32)).toUInt32 &&& Int32.toUInt32 31)).toInt32 &&& (1431655765 : Int32))) &&& (858993459 : Int32)) + ((((l0 - (((l0).toUInt32 >>> (((1 : Int32)).toUInt32 &&& Int32.toUInt32 31)).toInt32 &&& (1431655765 : Int32)))).toUInt32 >>> (((2 : Int32)).toUInt32 &&& Int32.toUInt32 31)).toInt32 &&& (858993459 : Int32))) + (((((l0 - (((l0).toUInt32 >>> (((1 : Int32)).toUInt32 &&& Int32.toUInt32 31)).toInt32 &&& (1431655765 : Int32))) &&& (858993459 : Int32)) + ((((l0 - (((l0).toUInt32 >>> (((1 : Int32)).toUInt32 &&& Int32.toUInt32 31)).toInt32 &&& (1431655765 : Int32)))).toUInt32 >>> (((2 : Int32)).toUInt32 &&& Int32.toUInt32 31)).toInt32 &&& (858993459 : Int32)))).toUInt32 >>> (((4 : Int32)).toUInt32 &&& Int32.toUInt32 31)).toInt32) &&& (252645135 : Int32)) + (((((((l0 - (((l0).toUInt32 >>> (((1 : Int32)).toUInt32 &&& Int32.toUInt32 31)).toInt32 &&& (1431655765 : Int32))) &&& (858993459 : Int32)) + ((((l0 - (((l0).toUInt32 >>> (((1 : Int32)).toUInt32 &&& Int32.toUInt32 31)).toInt32 &&& (1431655765 : Int32)))).toUInt32 >>> (((2 : Int32)).toUInt32 &&& Int32.toUInt32 31)).toInt32 &&& (858993459 : Int32))) + (((((l0 - (((l0).toUInt32 >>> (((1 : Int32)).toUInt32 &&& Int32.toUInt32 31)).toInt32 &&& (1431655765 : Int32))) &&& (858993459 : Int32)) + ((((l0 - (((l0).toUInt32 >>> (((1 : Int32)).toUInt32 &&& Int32.toUInt32 31)).toInt32 &&& (1431655765 : Int32)))).toUInt32 >>> (((2 : Int32)).toUInt32 &&& Int32.toUInt32 31)).toInt32 &&& (858993459 : Int32)))).toUInt32 >>> (((4 : Int32)).toUInt32 &&& Int32.toUInt32 31)).toInt32) &&& (252645135 : Int32))).toUInt32 >>> (((8 : Int32)).toUInt32 &&& Int32.toUInt32 31)).toInt32) + ((((((((l0 - (((l0).toUInt32 >>> (((1 : Int32)).toUInt32 &&& Int32.toUInt32 31)).toInt32 &&& (1431655765 : Int32))) &&& (858993459 : Int32)) + ((((l0 - (((l0).toUInt32 >>> (((1 : Int32)).toUInt32 &&& Int32.toUInt32 31)).toInt32 &&& (1431655765 : Int32)))).toUInt32 >>> (((2 : Int32)).toUInt32 &&& Int32.toUInt32 31)).toInt32 &&& (858993459 : Int32))) + (((((l0 - (((l0).toUInt32 >>> (((1 : Int32)).toUInt32 &&& Int32.toUInt32 31)).toInt32 &&& (1431655765 : Int32))) &&& (858993459 : Int32)) + ((((l0 - (((l0).toUInt32 >>> (((1 : Int32)).toUInt32 &&& Int32.toUInt32 31)).toInt32 &&& (1431655765 : Int32)))).toUInt32 >>> (((2 : Int32)).toUInt32 &&& Int32.toUInt32 31)).toInt32 &&& (858993459 : Int32)))).toUInt32 >>> (((4 : Int32)).toUInt32 &&& Int32.toUInt32 31)).toInt32) &&& (252645135 : Int32)) + (((((((l0 - (((l0).toUInt32 >>> (((1 : Int32)).toUInt32 &&& Int32.toUInt32 31)).toInt32 &&& (1431655765 : Int32))) &&& (858993459 : Int32)) + ((((l0 - (((l0).toUInt32 >>> (((1 : Int32)).toUInt32 &&& Int32.toUInt32 31)).toInt32 &&& (1431655765 : Int32)))).toUInt32 >>> (((2 : Int32)).toUInt32 &&& Int32.toUInt32 31)).toInt32 &&& (858993459 : Int32))) + (((((l0 - (((l0).toUInt32 >>> (((1 : Int32)).toUInt32 &&& Int32.toUInt32 31)).toInt32 &&& (1431655765 : Int32))) &&& (858993459 : Int32)) + ((((l0 - (((l0).toUInt32 >>> (((1 : Int32)).toUInt32 &&& Int32.toUInt32 31)).toInt32 &&& (1431655765 : Int32)))).toUInt32 >>> (((2 : Int32)).toUInt32 &&& Int32.toUInt32 31)).toInt32 &&& (858993459 : Int32)))).toUInt32 >>> (((4 : Int32)).toUInt32 &&& Int32.toUInt32 31)).toInt32) &&& (252645135 : Int32))).toUInt32 >>> (((8 : Int32)).toUInt32 &&& Int32.toUInt32 31)).toInt32)).toUInt32 >>> (((16 : Int32)).toUInt32 &&& Int32.toUInt32 31)).toInt32) &&& (63 : Int32)))) S im) : V mJ6_bitCount_0f7a4 d b 0 [some (.int l0)] [] S im Q := by
  refine V.iload_n dJ6_bitCount_0f7a4_0 rfl rfl ?_
  refine V.iload_n dJ6_bitCount_0f7a4_1 rfl rfl ?_
  refine V.iconst (v := 1) dJ6_bitCount_0f7a4_2 (by decide) ?_
  refine V.iushr dJ6_bitCount_0f7a4_3 ?_
  refine V.ldcw kJ6_265 dJ6_bitCount_0f7a4_4 ?_
  refine V.iand dJ6_bitCount_0f7a4_7 ?_
  refine V.isub dJ6_bitCount_0f7a4_8 ?_
  refine V.istore_n dJ6_bitCount_0f7a4_9 rfl rfl rfl ?_
  refine V.iload_n dJ6_bitCount_0f7a4_10 rfl rfl ?_
  refine V.ldcw kJ6_266 dJ6_bitCount_0f7a4_11 ?_
  refine V.iand dJ6_bitCount_0f7a4_14 ?_
  refine V.iload_n dJ6_bitCount_0f7a4_15 rfl rfl ?_
  refine V.iconst (v := 2) dJ6_bitCount_0f7a4_16 (by decide) ?_
  refine V.iushr dJ6_bitCount_0f7a4_17 ?_
  refine V.ldcw kJ6_266 dJ6_bitCount_0f7a4_18 ?_
  refine V.iand dJ6_bitCount_0f7a4_21 ?_
  refine V.iadd dJ6_bitCount_0f7a4_22 ?_
  refine V.istore_n dJ6_bitCount_0f7a4_23 rfl rfl rfl ?_
  refine V.iload_n dJ6_bitCount_0f7a4_24 rfl rfl ?_
  refine V.iload_n dJ6_bitCount_0f7a4_25 rfl rfl ?_
  refine V.iconst (v := 4) dJ6_bitCount_0f7a4_26 (by decide) ?_
  refine V.iushr dJ6_bitCount_0f7a4_27 ?_
  refine V.iadd dJ6_bitCount_0f7a4_28 ?_
  refine V.ldcw kJ6_267 dJ6_bitCount_0f7a4_29 ?_
  refine V.iand dJ6_bitCount_0f7a4_32 ?_
  refine V.istore_n dJ6_bitCount_0f7a4_33 rfl rfl rfl ?_
  refine V.iload_n dJ6_bitCount_0f7a4_34 rfl rfl ?_
  refine V.iload_n dJ6_bitCount_0f7a4_35 rfl rfl ?_
  refine V.bipush (v := 8) dJ6_bitCount_0f7a4_36 (by decide) ?_
  refine V.iushr dJ6_bitCount_0f7a4_38 ?_
  refine V.iadd dJ6_bitCount_0f7a4_39 ?_
  refine V.istore_n dJ6_bitCount_0f7a4_40 rfl rfl rfl ?_
  refine V.iload_n dJ6_bitCount_0f7a4_41 rfl rfl ?_
  refine V.iload_n dJ6_bitCount_0f7a4_42 rfl rfl ?_
  refine V.bipush (v := 16) dJ6_bitCount_0f7a4_43 (by decide) ?_
  refine V.iushr dJ6_bitCount_0f7a4_45 ?_
  refine V.iadd dJ6_bitCount_0f7a4_46 ?_
  refine V.istore_n dJ6_bitCount_0f7a4_47 rfl rfl rfl ?_
  refine V.iload_n dJ6_bitCount_0f7a4_48 rfl rfl ?_
  refine V.bipush (v := 63) dJ6_bitCount_0f7a4_49 (by decide) ?_
  refine V.iand dJ6_bitCount_0f7a4_51 ?_
  exact V.iret rfl dJ6_bitCount_0f7a4_52 hq
theorem bJ9_max_7cf53_0 {d : Nat} {b : Nat × Nat} {S : XS} {im : XI} {Q : Option Value → XS → XI → Prop} {l0 : Int32} {l1 : Int32}  (kt : l0 < l1 → V mJ9_max_7cf53 d b 9 [some (.int l0), some (.int l1)] [] S im Q) (kf : ¬ l0 < l1 → V mJ9_max_7cf53 d b 5 [some (.int l0), some (.int l1)] [] S im Q) : V mJ9_max_7cf53 d b 0 [some (.int l0), some (.int l1)] [] S im Q := by
  refine V.iload_n dJ9_max_7cf53_0 rfl rfl ?_
  refine V.iload_n dJ9_max_7cf53_1 rfl rfl ?_
  refine V.icmp_lt (tgt := 9) dJ9_max_7cf53_2 (by decide) (fun h => ?_) (fun h => ?_)
  · exact kt h
  · exact kf h
theorem bJ9_max_7cf53_5 {d : Nat} {b : Nat × Nat} {S : XS} {im : XI} {Q : Option Value → XS → XI → Prop} {l0 : Int32} {l1 : Int32}  (k : V mJ9_max_7cf53 d b 10 [some (.int l0), some (.int l1)] [.int l0] S im Q) : V mJ9_max_7cf53 d b 5 [some (.int l0), some (.int l1)] [] S im Q := by
  refine V.iload_n dJ9_max_7cf53_5 rfl rfl ?_
  refine V.goto (tgt := 10) dJ9_max_7cf53_6 (by decide) ?_
  exact k
theorem bJ9_max_7cf53_9 {d : Nat} {b : Nat × Nat} {S : XS} {im : XI} {Q : Option Value → XS → XI → Prop} {l0 : Int32} {l1 : Int32}  (k : V mJ9_max_7cf53 d b 10 [some (.int l0), some (.int l1)] [.int l1] S im Q) : V mJ9_max_7cf53 d b 9 [some (.int l0), some (.int l1)] [] S im Q := by
  refine V.iload_n dJ9_max_7cf53_9 rfl rfl ?_
  exact k
theorem bJ9_max_7cf53_10 {d : Nat} {b : Nat × Nat} {S : XS} {im : XI} {Q : Option Value → XS → XI → Prop} {l0 : Int32} {l1 : Int32} {s0 : Int32}  (hq : Q (some (.int s0)) S im) : V mJ9_max_7cf53 d b 10 [some (.int l0), some (.int l1)] [.int s0] S im Q := by
  exact V.iret rfl dJ9_max_7cf53_10 hq
theorem bJ9_min_7cf53_0 {d : Nat} {b : Nat × Nat} {S : XS} {im : XI} {Q : Option Value → XS → XI → Prop} {l0 : Int32} {l1 : Int32}  (kt : l1 < l0 → V mJ9_min_7cf53 d b 9 [some (.int l0), some (.int l1)] [] S im Q) (kf : ¬ l1 < l0 → V mJ9_min_7cf53 d b 5 [some (.int l0), some (.int l1)] [] S im Q) : V mJ9_min_7cf53 d b 0 [some (.int l0), some (.int l1)] [] S im Q := by
  refine V.iload_n dJ9_min_7cf53_0 rfl rfl ?_
  refine V.iload_n dJ9_min_7cf53_1 rfl rfl ?_
  refine V.icmp_gt (tgt := 9) dJ9_min_7cf53_2 (by decide) (fun h => ?_) (fun h => ?_)
  · exact kt h
  · exact kf h
theorem bJ9_min_7cf53_5 {d : Nat} {b : Nat × Nat} {S : XS} {im : XI} {Q : Option Value → XS → XI → Prop} {l0 : Int32} {l1 : Int32}  (k : V mJ9_min_7cf53 d b 10 [some (.int l0), some (.int l1)] [.int l0] S im Q) : V mJ9_min_7cf53 d b 5 [some (.int l0), some (.int l1)] [] S im Q := by
  refine V.iload_n dJ9_min_7cf53_5 rfl rfl ?_
  refine V.goto (tgt := 10) dJ9_min_7cf53_6 (by decide) ?_
  exact k
theorem bJ9_min_7cf53_9 {d : Nat} {b : Nat × Nat} {S : XS} {im : XI} {Q : Option Value → XS → XI → Prop} {l0 : Int32} {l1 : Int32}  (k : V mJ9_min_7cf53 d b 10 [some (.int l0), some (.int l1)] [.int l1] S im Q) : V mJ9_min_7cf53 d b 9 [some (.int l0), some (.int l1)] [] S im Q := by
  refine V.iload_n dJ9_min_7cf53_9 rfl rfl ?_
  exact k
theorem bJ9_min_7cf53_10 {d : Nat} {b : Nat × Nat} {S : XS} {im : XI} {Q : Option Value → XS → XI → Prop} {l0 : Int32} {l1 : Int32} {s0 : Int32}  (hq : Q (some (.int s0)) S im) : V mJ9_min_7cf53 d b 10 [some (.int l0), some (.int l1)] [.int s0] S im Q := by
  exact V.iret rfl dJ9_min_7cf53_10 hq

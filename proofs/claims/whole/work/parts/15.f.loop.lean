theorem and63 (x : Int32) : ∃ j : Nat, j < 64 ∧ x &&& 63 = nI j := by
  refine ⟨(x &&& 63).toBitVec.toNat, ?_, ?_⟩
  · show (x.toBitVec &&& 63#32).toNat < 64
    rw [BitVec.toNat_and]
    exact Nat.lt_of_le_of_lt Nat.and_le_right (by decide)
  · apply Int32.toBitVec_inj.mp
    show (x &&& 63).toBitVec = BitVec.ofNat 32 (x &&& 63).toBitVec.toNat
    rw [BitVec.ofNat_toNat, BitVec.setWidth_eq]
theorem l_case {Ln : Nat} {xs : Nat → Int32} {bo : Bool} {N i : Nat} {ic im : XI} (hi : i + 6 ≤ Ln) (hL : Ln ≤ 3072) (hN : N < 2 ^ 30) (hR : REL bo N ic im) (k : ∀ bo1 ic1 im1, REL bo1 (N + 1) ic1 im1 → LV Ln xs (lbud bo1) 1414 (lL i) [] (SC bo1) ic1 SM im1) : LV Ln xs (lbud bo) 33 (lL i) [.int (xs i &&& 63)] (SC bo) ic SM im := by
  obtain ⟨j, hj, e⟩ := and63 (xs i)
  rw [e]
  by_cases h : j < 38
  · match j, h with
    | 0, _ => exact LV.tableIn (off := 167) (tgt := 200) dL_law_33 (by decide) (by decide) rfl (by decide) (lc_0 hi hL hN hR k)
    | 1, _ => exact LV.tableIn (off := 210) (tgt := 243) dL_law_33 (by decide) (by decide) rfl (by decide) (lc_1 hi hL hN hR k)
    | 2, _ => exact LV.tableIn (off := 243) (tgt := 276) dL_law_33 (by decide) (by decide) rfl (by decide) (lc_2 hi hL hN hR k)
    | 3, _ => exact LV.tableIn (off := 276) (tgt := 309) dL_law_33 (by decide) (by decide) rfl (by decide) (lc_3 hi hL hN hR k)
    | 4, _ => exact LV.tableIn (off := 309) (tgt := 342) dL_law_33 (by decide) (by decide) rfl (by decide) (lc_4 hi hL hN hR k)
    | 5, _ => exact LV.tableIn (off := 352) (tgt := 385) dL_law_33 (by decide) (by decide) rfl (by decide) (lc_5 hi hL hN hR k)
    | 6, _ => exact LV.tableIn (off := 395) (tgt := 428) dL_law_33 (by decide) (by decide) rfl (by decide) (lc_6 hi hL hN hR k)
    | 7, _ => exact LV.tableIn (off := 428) (tgt := 461) dL_law_33 (by decide) (by decide) rfl (by decide) (lc_7 hi hL hN hR k)
    | 8, _ => exact LV.tableIn (off := 461) (tgt := 494) dL_law_33 (by decide) (by decide) rfl (by decide) (lc_8 hi hL hN hR k)
    | 9, _ => exact LV.tableIn (off := 474) (tgt := 507) dL_law_33 (by decide) (by decide) rfl (by decide) (lc_9 hi hL hN hR k)
    | 10, _ => exact LV.tableIn (off := 537) (tgt := 570) dL_law_33 (by decide) (by decide) rfl (by decide) (lc_10 hi hL hN hR k)
    | 11, _ => exact LV.tableIn (off := 560) (tgt := 593) dL_law_33 (by decide) (by decide) rfl (by decide) (lc_11 hi hL hN hR k)
    | 12, _ => exact LV.tableIn (off := 583) (tgt := 616) dL_law_33 (by decide) (by decide) rfl (by decide) (lc_12 hi hL hN hR k)
    | 13, _ => exact LV.tableIn (off := 636) (tgt := 669) dL_law_33 (by decide) (by decide) rfl (by decide) (lc_13 hi hL hN hR k)
    | 14, _ => exact LV.tableIn (off := 659) (tgt := 692) dL_law_33 (by decide) (by decide) rfl (by decide) (lc_14 hi hL hN hR k)
    | 15, _ => exact LV.tableIn (off := 682) (tgt := 715) dL_law_33 (by decide) (by decide) rfl (by decide) (lc_15 hi hL hN hR k)
    | 16, _ => exact LV.tableIn (off := 705) (tgt := 738) dL_law_33 (by decide) (by decide) rfl (by decide) (lc_16 hi hL hN hR k)
    | 17, _ => exact LV.tableIn (off := 728) (tgt := 761) dL_law_33 (by decide) (by decide) rfl (by decide) (lc_17 hi hL hN hR k)
    | 18, _ => exact LV.tableIn (off := 761) (tgt := 794) dL_law_33 (by decide) (by decide) rfl (by decide) (lc_18 hi hL hN hR k)
    | 19, _ => exact LV.tableIn (off := 784) (tgt := 817) dL_law_33 (by decide) (by decide) rfl (by decide) (lc_19 hi hL hN hR k)
    | 20, _ => exact LV.tableIn (off := 807) (tgt := 840) dL_law_33 (by decide) (by decide) rfl (by decide) (lc_20 hi hL hN hR k)
    | 21, _ => exact LV.tableIn (off := 840) (tgt := 873) dL_law_33 (by decide) (by decide) rfl (by decide) (lc_21 hi hL hN hR k)
    | 22, _ => exact LV.tableIn (off := 883) (tgt := 916) dL_law_33 (by decide) (by decide) rfl (by decide) (lc_22 hi hL hN hR k)
    | 23, _ => exact LV.tableIn (off := 926) (tgt := 959) dL_law_33 (by decide) (by decide) rfl (by decide) (lc_23 hi hL hN hR k)
    | 24, _ => exact LV.tableIn (off := 969) (tgt := 1002) dL_law_33 (by decide) (by decide) rfl (by decide) (lc_24 hi hL hN hR k)
    | 25, _ => exact LV.tableIn (off := 1012) (tgt := 1045) dL_law_33 (by decide) (by decide) rfl (by decide) (lc_25 hi hL hN hR k)
    | 26, _ => exact LV.tableIn (off := 1055) (tgt := 1088) dL_law_33 (by decide) (by decide) rfl (by decide) (lc_26 hi hL hN hR k)
    | 27, _ => exact LV.tableIn (off := 1078) (tgt := 1111) dL_law_33 (by decide) (by decide) rfl (by decide) (lc_27 hi hL hN hR k)
    | 28, _ => exact LV.tableIn (off := 1121) (tgt := 1154) dL_law_33 (by decide) (by decide) rfl (by decide) (lc_28 hi hL hN hR k)
    | 29, _ => exact LV.tableIn (off := 1164) (tgt := 1197) dL_law_33 (by decide) (by decide) rfl (by decide) (lc_29 hi hL hN hR k)
    | 30, _ => exact LV.tableIn (off := 1227) (tgt := 1260) dL_law_33 (by decide) (by decide) rfl (by decide) (lc_30 hi hL hN hR k)
    | 31, _ => exact LV.tableIn (off := 1250) (tgt := 1283) dL_law_33 (by decide) (by decide) rfl (by decide) (lc_31 hi hL hN hR k)
    | 32, _ => exact LV.tableIn (off := 1273) (tgt := 1306) dL_law_33 (by decide) (by decide) rfl (by decide) (lc_32 hi hL hN hR k)
    | 33, _ => exact LV.tableIn (off := 1286) (tgt := 1319) dL_law_33 (by decide) (by decide) rfl (by decide) (lc_33 hi hL hN hR k)
    | 34, _ => exact LV.tableIn (off := 1299) (tgt := 1332) dL_law_33 (by decide) (by decide) rfl (by decide) (lc_34 hi hL hN hR k)
    | 35, _ => exact LV.tableIn (off := 1322) (tgt := 1355) dL_law_33 (by decide) (by decide) rfl (by decide) (lc_35 hi hL hN hR k)
    | 36, _ => exact LV.tableIn (off := 1335) (tgt := 1368) dL_law_33 (by decide) (by decide) rfl (by decide) (lc_36 hi hL hN hR k)
    | 37, _ => exact LV.tableIn (off := 1358) (tgt := 1391) dL_law_33 (by decide) (by decide) rfl (by decide) (lc_37 hi hL hN hR k)
    | j + 38, h => exact absurd h (by omega)
  · exact LV.tableOut (tgt := 1414) dL_law_33 (Or.inr (by rw [nI_toInt (by omega)]; omega)) (by decide) (k bo ic im hR.mono)
theorem l_gt {Ln i : Nat} (h1 : Ln ≤ 3072) (h2 : i ≤ 4000) : (nI Ln - 6 < nI i) ↔ ¬ i + 6 ≤ Ln := by
  rw [i_lt, Int32.toInt_sub, nI_toInt (by omega), nI_toInt (by omega), show (6 : Int32).toInt = 6 from rfl, Int.bmod_def]
  split <;> omega
theorem l_loop {Ln : Nat} {xs : Nat → Int32} (hL : Ln ≤ 3072) : ∀ (f i N : Nat) (bo : Bool) (ic im : XI), Ln < i + f → i ≤ 4000 → N ≤ i → REL bo N ic im → LV Ln xs (lbud bo) 18 (lL i) [] (SC bo) ic SM im := by
  intro f
  induction f with
  | zero =>
    intro i N bo ic im h1 h2 h3 hR
    refine LV.iload_n dL_law_18 rfl rfl ?_
    refine LV.aload_n dL_law_19 rfl rfl ?_
    refine LV.slen dL_law_20 ?_
    refine LV.bipush (v := 6) dL_law_21 rfl ?_
    refine LV.isub dL_law_23 ?_
    refine LV.icmp_gt (tgt := 1420) dL_law_24 (by decide) (fun _ => ?_) (fun c => absurd ((l_gt hL h2).mpr (by omega)) c)
    refine LV.iconst (v := 1) dL_law_1420 rfl ?_
    exact LV.ret dL_law_1421
  | succ f ih =>
    intro i N bo ic im h1 h2 h3 hR
    refine LV.iload_n dL_law_18 rfl rfl ?_
    refine LV.aload_n dL_law_19 rfl rfl ?_
    refine LV.slen dL_law_20 ?_
    refine LV.bipush (v := 6) dL_law_21 rfl ?_
    refine LV.isub dL_law_23 ?_
    refine LV.icmp_gt (tgt := 1420) dL_law_24 (by decide) (fun _ => ?_) (fun c => ?_)
    · refine LV.iconst (v := 1) dL_law_1420 rfl ?_
      exact LV.ret dL_law_1421
    · have hi : i + 6 ≤ Ln := Classical.not_not.mp (fun g => c ((l_gt hL h2).mpr g))
      refine LV.aload_n dL_law_27 rfl rfl ?_
      refine LV.iload_n dL_law_28 rfl rfl ?_
      refine LV.sld dL_law_29 (by omega) hL ?_
      refine LV.bipush (v := 63) dL_law_30 rfl ?_
      refine LV.iand dL_law_32 ?_
      refine l_case hi hL (by omega) hR (fun bo1 ic1 im1 hR1 => ?_)
      refine LV.iinc (v := nI (i + 6)) dL_law_1414 rfl (nI_add i 6) rfl ?_
      refine LV.goto (tgt := 18) dL_law_1417 (by decide) ?_
      exact ih (i + 6) (N + 1) bo1 ic1 im1 (by omega) (by omega) (by omega) hR1

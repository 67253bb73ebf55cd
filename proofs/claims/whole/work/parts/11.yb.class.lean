theorem pX9_judge {d : Nat} {im : XI} {bo : Bool} {s : Nat → Int32} {np nd : Nat} {bs ss nu : Nat → Int32} {z0 : Int32} (hR : RI 0 s im) (hI : Iv s np nd) (hS : SR bs ss nu im) (hSI : SI bs ss) : SpI mX9_judge (d + 5) [.ref 0, .int z0] (SC bo) im (fun x im' => Pc im (opJudge s bs ss nu z0) x im') := by
  refine SpI.of [some (.ref 0), some (.int z0), none, none] rfl (by decide) rfl (fun Q hQ => ?_)
  refine bX9_judge_0 pX9_isSheet ?_
  rintro x0 im1 ⟨hx, hm⟩
  subst hm
  refine bX9_judge_4 (fun c => ?_) (fun c => ?_)
  rotate_left
  · rw [hx, b2i_z] at c
    refine bX9_judge_7 (pX9_fail (k := 1) (by decide) (by decide) (by decide)) ?_
    rintro _ _ ⟨rfl, rfl⟩
    refine bX9_judge_13 ?_
    refine hQ _ _ ?_
    unfold opJudge
    rw [if_pos c]
    exact Pc.er hI rfl hR kK.rf (by decide)
  rw [hx, b2i_nz] at c
  obtain ⟨z, hz3, rfl⟩ := (in_c (x := z0) (n := 3) rfl (by decide)).mp c
  have hz4 : z < 4 := by omega
  have hzn : nnat (nI z) = z := nnat_nI (by omega)
  obtain ⟨s1, s2, s3⟩ := hS z hz4
  obtain ⟨hbz, m, hm, hmz⟩ := hSI z hz4
  have hmn : nnat (nI m) = m := nnat_nI (by omega)
  refine bX9_judge_14 rfl hz4 (pX7_isMissing (xsheet hz4)) ?_
  rintro x1 im1 ⟨hx1, hm1⟩
  subst hm1
  rw [s1] at hx1
  refine bX9_judge_23 (fun c2 => ?_) (fun c2 => ?_)
  rotate_left
  · rw [hx1, b2i_nz] at c2
    refine bX9_judge_26 (pX9_fail (k := 2) (by decide) (by decide) (by decide)) ?_
    rintro _ _ ⟨rfl, rfl⟩
    refine bX9_judge_32 ?_
    refine hQ _ _ ?_
    unfold opJudge
    rw [if_neg (not_not_intro c), hzn, if_pos c2]
    exact Pc.er hI rfl hR kK.rf (by decide)
  rw [hx1, b2i_z] at c2
  refine bX9_judge_33 rfl hz4 ?_
  have fin : ∀ (f n : Nat) (im1 : XI), kC im im1 → jgR s m (fun k => nu (24 * z + k)) (f + 1) n = jgR s m (fun k => nu (24 * z + k)) 25 0 → ¬ (n < m ∧ allT s (s 0 + nI n) = nu (24 * z + n)) → V mX9_judge (d + 5) (0, 0) 83 [some (.ref 0), some (.int (nI z)), some (.ref (39 + 3 * z)), some (.int (nI n))] [] (SC bo) im1 Q := by
    intro f n im1 hk hE hend
    refine bX9_judge_83 ?_
    refine hQ _ _ ?_
    unfold opJudge
    rw [if_neg (not_not_intro c), hzn, if_neg c2, hmz, hmn, ← hE]
    unfold jgR
    rw [if_neg hend]
    exact Pc.ok rfl (hR.kC hI hk) hk.K
  have key : ∀ (f n : Nat) (im1 : XI), 25 = n + f → n ≤ m → kC im im1 → jgR s m (fun k => nu (24 * z + k)) f n = jgR s m (fun k => nu (24 * z + k)) 25 0 → V mX9_judge (d + 5) (0, 0) 45 [some (.ref 0), some (.int (nI z)), some (.ref (39 + 3 * z)), some (.int (nI n))] [] (SC bo) im1 Q := by
    intro f
    induction f with
    | zero => intro n im1 a1 a2; omega
    | succ f ih =>
      intro n im1 a1 a2 hk hE
      have hR1 := hR.kC hI hk
      refine bX9_judge_45 (xsheetRow hz4) (pX6_size (xsheetRow hz4)) ?_
      rintro _ _ ⟨rfl, rfl⟩
      have hf : im1 (39 + 3 * z) 1 = nI m := by rw [hk.e _ (by omega)]; exact s2.trans hmz
      rw [hf]
      refine bX9_judge_50 (fun d1 => ?_) (fun d1 => ?_)
      · have := ge_i (by omega) (by omega) d1
        exact fin f n im1 hk hE (fun h => by have := h.1; omega)
      have hlt := lt_i (by omega) (by omega) d1
      refine bX9_judge_53 (xsheetRow hz4) (pX6_at (xsheetRow hz4) (xsheetRowR hz4) (xsheetA hz4) hf hm rfl hlt) ?_
      rintro _ _ ⟨rfl, rfl⟩
      have hnum : nmR (im1 (40 + 3 * z) n) (nu (24 * z + n)) := by rw [hk.e _ (by omega)]; exact s3 m hm hmz n hlt
      refine bX9_judge_58 (pX2_shutSet hR1 hI) ?_
      rintro _ im2 ⟨rfl, hk2⟩
      rw [nowW hR1]
      obtain ⟨q, hq, hqe⟩ := allT_nat (s 0 + nI n) hI
      have hiff := hnum.eq hqe (by omega)
      refine bX9_judge_74 (fun d2 => ?_) (fun d2 => ?_)
      · exact fin f n im2 (hk.tr hk2) hE (fun h => d2 (hiff.mpr h.2.symm))
      · refine bX9_judge_77 ?_
        rw [nI_1]
        refine ih (n + 1) im2 (by omega) (by omega) (hk.tr hk2) ?_
        rw [← hE]
        conv => rhs; unfold jgR
        rw [if_pos ⟨hlt, (hiff.mp d2).symm⟩]
  exact key 25 0 im rfl (by omega) kC.rf rfl
theorem pX9_partsAll {d : Nat} {im : XI} {bo : Bool} {s : Nat → Int32} {np nd : Nat} {bs ss nu : Nat → Int32} {z0 : Int32} (hR : RI 0 s im) (hI : Iv s np nd) (hS : SR bs ss nu im) (hSI : SI bs ss) : SpI mX9_partsAll (d + 2) [.ref 0, .int z0] (SC bo) im (fun x im' => Pc im (opPartsAll s bs ss nu z0) x im') := by
  refine SpI.of [some (.ref 0), some (.int z0), none, none] rfl (by decide) rfl (fun Q hQ => ?_)
  have hnd := hI.2.1.1
  have hnp := hI.1.1
  refine bX9_partsAll_0 pX9_isSheet ?_
  rintro x0 im1 ⟨hx, hm⟩
  subst hm
  refine bX9_partsAll_4 (fun c => ?_) (fun c => ?_)
  rotate_left
  · rw [hx, b2i_z] at c
    refine bX9_partsAll_7 (pX9_fail (k := 1) (by decide) (by decide) (by decide)) ?_
    rintro _ _ ⟨rfl, rfl⟩
    refine bX9_partsAll_13 ?_
    refine hQ _ _ ?_
    unfold opPartsAll
    rw [if_pos c]
    exact Pc.er hI rfl hR kK.rf (by decide)
  rw [hx, b2i_nz] at c
  obtain ⟨z, hz3, rfl⟩ := (in_c (x := z0) (n := 3) rfl (by decide)).mp c
  have hz4 : z < 4 := by omega
  have hzn : nnat (nI z) = z := nnat_nI (by omega)
  obtain ⟨s1, s2, s3⟩ := hS z hz4
  obtain ⟨hbz, m, hm, hmz⟩ := hSI z hz4
  have hmn : nnat (nI m) = m := nnat_nI (by omega)
  refine bX9_partsAll_14 rfl hz4 (pX7_isMissing (xsheet hz4)) ?_
  rintro x1 im1 ⟨hx1, hm1⟩
  subst hm1
  rw [s1] at hx1
  refine bX9_partsAll_23 (fun c2 => ?_) (fun c2 => ?_)
  rotate_left
  · rw [hx1, b2i_nz] at c2
    refine bX9_partsAll_26 (pX9_fail (k := 2) (by decide) (by decide) (by decide)) ?_
    rintro _ _ ⟨rfl, rfl⟩
    refine bX9_partsAll_32 ?_
    refine hQ _ _ ?_
    unfold opPartsAll
    rw [if_neg (not_not_intro c), hzn, if_pos c2]
    exact Pc.er hI rfl hR kK.rf (by decide)
  rw [hx1, b2i_z] at c2
  refine bX9_partsAll_33 rfl hz4 ?_
  have fin : ∀ (f n : Nat) (s1 : Nat → Int32) (im1 : XI), RI 0 s1 im1 → kK im im1 → paR m (fun k => nu (24 * z + k)) (f + 1) n s1 = paR m (fun k => nu (24 * z + k)) 7 0 s → ¬ paOk s1 m (fun k => nu (24 * z + k)) n → V mX9_partsAll (d + 2) (0, 0) 98 [some (.ref 0), some (.int (nI z)), some (.ref (39 + 3 * z)), some (.int (nI n))] [] (SC bo) im1 Q := by
    intro f n s1 im1 hR1 hk hE hend
    refine bX9_partsAll_98 ?_
    refine hQ _ _ ?_
    unfold opPartsAll
    rw [if_neg (not_not_intro c), hzn, if_neg c2, hmz, hmn, ← hE]
    unfold paR
    rw [if_neg hend]
    exact Pc.ok rfl hR1 hk
  have key : ∀ (f n : Nat) (s1 : Nat → Int32) (im1 : XI), 7 = n + f → n ≤ nd → RI 0 s1 im1 → Iv s1 np nd → kK im im1 → paR m (fun k => nu (24 * z + k)) f n s1 = paR m (fun k => nu (24 * z + k)) 7 0 s → V mX9_partsAll (d + 2) (0, 0) 45 [some (.ref 0), some (.int (nI z)), some (.ref (39 + 3 * z)), some (.int (nI n))] [] (SC bo) im1 Q := by
    intro f
    induction f with
    | zero => intro n s1 im1 a1 a2; omega
    | succ f ih =>
      intro n s1 im1 a1 a2 hR1 hI1 hk hE
      have e39 : im1 (39 + 3 * z) = im (39 + 3 * z) := by funext i; exact hk _ i (by omega)
      have e40 : im1 (40 + 3 * z) = im (40 + 3 * z) := by funext i; exact hk _ i (by omega)
      refine bX9_partsAll_45 (xsheetRow hz4) (pX6_size (xsheetRow hz4)) ?_
      rintro _ _ ⟨rfl, rfl⟩
      have hf : im1 (39 + 3 * z) 1 = nI m := by rw [e39]; exact s2.trans hmz
      rw [hf]
      refine bX9_partsAll_50 (fun d1 => ?_) (fun d1 => ?_)
      · have := ge_i (by omega) (by omega) d1
        exact fin f n s1 im1 hR1 hk hE (fun h => by have := h.1; omega)
      have hlt := lt_i (by omega) (by omega) d1
      refine bX9_partsAll_53 (pX2_hasDoing hR1) ?_
      rintro x2 im2 ⟨hx2, hm2⟩
      subst hm2
      refine bX9_partsAll_61 (fun d2 => ?_) (fun d2 => ?_)
      · rw [hx2, b2i_z, okD_n hI1.2.1.2.1 hnd (by omega)] at d2
        exact fin f n s1 im1 hR1 hk hE (fun h => d2 (by have := h.2.1; rw [nnd hI1] at this; exact this))
      rw [hx2, b2i_nz, okD_n hI1.2.1.2.1 hnd (by omega)] at d2
      refine bX9_partsAll_64 (xsheetRow hz4) (pX6_at (xsheetRow hz4) (xsheetRowR hz4) (xsheetA hz4) hf hm rfl hlt) ?_
      rintro _ _ ⟨rfl, rfl⟩
      have hnum : nmR (im1 (40 + 3 * z) n) (nu (24 * z + n)) := by rw [e40]; exact s3 m hm hmz n hlt
      obtain ⟨n1, n2⟩ := hnum.pa
      refine bX9_partsAll_69 pX9_isParts ?_
      rintro x3 im3 ⟨hx3, hm3⟩
      subst hm3
      refine bX9_partsAll_72 (fun d3 => ?_) (fun d3 => ?_)
      · rw [hx3, b2i_z] at d3
        exact fin f n s1 im1 hR1 hk hE (fun h => d3 (n1.mpr h.2.2))
      rw [hx3, b2i_nz] at d3
      have hok : paOk s1 m (fun k => nu (24 * z + k)) n := ⟨hlt, by rw [nnd hI1]; exact d2, n1.mp d3⟩
      refine bX9_partsAll_75 rfl (by omega) (xsheetRow hz4) (pX6_at (xsheetRow hz4) (xsheetRowR hz4) (xsheetA hz4) hf hm rfl hlt) ?_
      rintro _ _ ⟨rfl, rfl⟩
      rw [n2 d3]
      refine bX9_partsAll_89 (xdoing (by omega)) ?_
      rw [nI_1]
      obtain ⟨q, hq, hqe⟩ := (in_c (n := 99) rfl (by decide)).mp (n1.mp d3)
      refine ih (n + 1) _ _ (by omega) (by omega) (hR1.set (j := 33 + 3 * n) (a := 22 + n) (i := 1) hI1 (Or.inr (Or.inr (Or.inr ⟨n, 1, by omega, by omega, by omega, rfl, rfl⟩)))) (by rw [show upd s1 (33 + 3 * n) (nu (24 * z + n)) = upd s1 (33 + 3 * n) (nI q) by rw [hqe]]; exact Iv_parts hI1 (by omega) hq) (hk.up (by omega)) ?_
      rw [← hE]
      conv => rhs; unfold paR
      rw [if_pos hok]
  exact key 7 0 s im rfl (by omega) hR hI kK.rf rfl
theorem pX9_fits {d : Nat} {im : XI} {bo : Bool} {s : Nat → Int32} {np nd : Nat} {bs ss nu : Nat → Int32} {z0 v w : Int32} (hR : RI 0 s im) (hI : Iv s np nd) (hS : SR bs ss nu im) (hSI : SI bs ss) : SpI mX9_fits (d + 6) [.ref 0, .int z0, .int v, .int w] (SC bo) im (fun x im' => Pc im (opFits s bs ss nu z0 v w) x im') := by
  refine SpI.of [some (.ref 0), some (.int z0), some (.int v), some (.int w)] rfl (by decide) rfl (fun Q hQ => ?_)
  have hnp := hI.1.1
  have hnd := hI.2.1.1
  have bad : ¬ (okP s v ∧ (0 ≤ w ∧ w ≤ 1) ∧ okSh z0) → V mX9_fits (d + 6) (0, 0) 27 [some (.ref 0), some (.int z0), some (.int v), some (.int w)] [] (SC bo) im Q := by
    intro h
    refine bX9_fits_27 (pX9_fail (k := 1) (by decide) (by decide) (by decide)) ?_
    rintro _ _ ⟨rfl, rfl⟩
    refine bX9_fits_33 ?_
    refine hQ _ _ ?_
    unfold opFits
    rw [if_pos h]
    exact Pc.er hI rfl hR kK.rf (by decide)
  refine bX9_fits_0 pX9_isSheet ?_
  rintro x0 im1 ⟨hx, hm⟩
  subst hm
  refine bX9_fits_4 (fun c => ?_) (fun c => ?_)
  · rw [hx, b2i_z] at c
    exact bad (fun h => c h.2.2)
  rw [hx, b2i_nz] at c
  refine bX9_fits_7 (pX2_hasPerson hR) ?_
  rintro x1 im1 ⟨hx1, hm⟩
  subst hm
  refine bX9_fits_15 (fun d => ?_) (fun d => ?_)
  · rw [hx1, b2i_z] at d
    exact bad (fun h => d h.1)
  rw [hx1, b2i_nz] at d
  have g0 := d
  refine bX9_fits_18 pX9_within ?_
  rintro x2 im1 ⟨hx2, hm⟩
  subst hm
  refine bX9_fits_24 (fun d2 => ?_) (fun d2 => ?_)
  rotate_left
  · rw [hx2, b2i_z] at d2
    exact bad (fun h => d2 h.2.1)
  rw [hx2, b2i_nz] at d2
  have hc1 : okP s v ∧ (0 ≤ w ∧ w ≤ 1) ∧ okSh z0 := ⟨d, d2, c⟩
  obtain ⟨p, hp, rfl⟩ := (in_n (n := np) (by have := hI.1.1; omega)).mp (show 0 ≤ v ∧ v ≤ nI np - 1 by rw [← hI.1.2.1]; exact g0)
  have hvp : nnat (nI p) = p := nnat_nI (by have := hI.1.1; omega)
  obtain ⟨z, hz3, rfl⟩ := (in_c (x := z0) (n := 3) rfl (by decide)).mp c
  have hz4 : z < 4 := by omega
  have hzn : nnat (nI z) = z := nnat_nI (by omega)
  obtain ⟨s1, s2, s3⟩ := hS z hz4
  obtain ⟨hbz, m, hm, hmz⟩ := hSI z hz4
  have hmn : nnat (nI m) = m := nnat_nI (by omega)
  refine bX9_fits_34 rfl hz4 (pX7_isMissing (xsheet hz4)) ?_
  rintro x3 im1 ⟨hx3, hm1⟩
  subst hm1
  rw [s1] at hx3
  refine bX9_fits_43 (fun c2 => ?_) (fun c2 => ?_)
  rotate_left
  · rw [hx3, b2i_nz] at c2
    refine bX9_fits_46 (pX9_fail (k := 2) (by decide) (by decide) (by decide)) ?_
    rintro _ _ ⟨rfl, rfl⟩
    refine bX9_fits_52 ?_
    refine hQ _ _ ?_
    unfold opFits
    rw [if_neg (not_not_intro hc1), hzn, if_pos c2]
    exact Pc.er hI rfl hR kK.rf (by decide)
  rw [hx3, b2i_z] at c2
  obtain ⟨cn, hcn⟩ : ∃ cn : Nat → Int32, cn = fun k => im (40 + 3 * z) k := ⟨_, rfl⟩
  have hCC : (fun b f : Nat => fitN s p cn (s 0) (nI b) (nI f) m) = fitC s nu z m p := by
    funext b f
    have : ∀ k, k ≤ m → fitN s p cn (s 0) (nI b) (nI f) k = fitN s p (fun k => nu (24 * z + k)) (s 0) (nI b) (nI f) k := by
      intro k
      induction k with
      | zero => intro _; rfl
      | succ k ih =>
        intro hk
        unfold fitN
        rw [ih (by omega)]
        have hnum : nmR (cn k) (nu (24 * z + k)) := by rw [hcn]; exact s3 m hm hmz k (by omega)
        have hq : ∃ q : Nat, q ≤ 127 ∧ shutG s p (s 0 + nI k) (nI b) (nI f) = nI q := by
          rcases shutG_01 s p (s 0 + nI k) (nI b) (nI f) with h | h
          · exact ⟨0, by omega, h⟩
          · exact ⟨1, by omega, h⟩
        obtain ⟨q, hq1, hq2⟩ := hq
        have hiff := hnum.eq hq2 hq1
        by_cases e : shutG s p (s 0 + nI k) (nI b) (nI f) = cn k
        · rw [if_pos e, if_pos (hiff.mp e.symm).symm]
        · rw [if_neg e, if_neg (c := shutG s p (s 0 + nI k) (nI b) (nI f) = nu (24 * z + k)) (fun h => e (hiff.mpr h.symm).symm)]
    exact this m (Nat.le_refl m)
  refine bX9_fits_53 rfl hz4 (pX1_findFits (C := fitC s nu z m p) (cn := cn) hR hI rfl hp (xsheetRow hz4) (xsheetRowR hz4) (xsheetA hz4) (by omega) (by omega) hm (s2.trans hmz) (fun k _ => by rw [hcn]) hCC.symm) ?_
  rintro im2 ⟨⟨q, hq, hq1, hq2⟩, f4, f5, hk⟩
  have hop : opFits s bs ss nu (nI z) (nI p) w = if w = 0 then rO (totC (fitC s nu z m p) 12) s else if totF (fitC s nu z m p) 12 = -1 then rE 2 s else rO (totF (fitC s nu z m p) 12) s := by
    unfold opFits
    rw [if_neg (not_not_intro hc1), hzn, if_neg c2, hmz, hmn, hvp]
  refine bX9_fits_70 (fun d3 => ?_) (fun d3 => ?_)
  rotate_left
  · refine bX9_fits_74 ?_
    refine hQ _ _ ?_
    rw [hop, if_pos d3]
    exact Pc.ok f4 (hR.kF hI hk) hk.K
  refine bX9_fits_82 (fun d4 => ?_) (fun d4 => ?_)
  · rw [f4, hq1] at d4
    have hne : ¬ totF (fitC s nu z m p) 12 = -1 := fun h => d4 (by rw [hq2.mpr h]; rfl)
    refine bX9_fits_101 ?_
    refine bX9_fits_108 ?_
    refine hQ _ _ ?_
    rw [hop, if_neg d3, if_neg hne]
    exact Pc.ok (f5 hne) (hR.kF hI hk) hk.K
  · rw [f4, hq1] at d4
    have he : totF (fitC s nu z m p) 12 = -1 := hq2.mp ((nI_eq (b := 0) (by omega) (by omega)).mp d4)
    refine bX9_fits_92 (pX9_fail (k := 2) (by decide) (by decide) (by decide)) ?_
    rintro _ _ ⟨rfl, rfl⟩
    refine bX9_fits_98 ?_
    refine bX9_fits_108 ?_
    refine hQ _ _ ?_
    rw [hop, if_neg d3, if_pos he]
    exact Pc.er hI rfl (hR.kF hI hk) hk.K (by decide)
theorem pX8_say {d : Nat} {im : XI} {bo : Bool} {p o : Nat} {w x0 mm : Int32} (hK : (SC bo).1[16 + p]? = some (.inl 4)) (ho : o < 7) (hp : p < 6) (h0 : im (16 + p) 0 = nI o) (h1 : im (16 + p) 1 = mm) : SpI mX8_say (d + 9) [.ref 33, .ref (16 + p), .int (nI p), .int w, .int x0] (SC bo) im (fun x im' => ∃ (l : List Int32) (g : Int32), ((w = 0 ∧ l = blL o ∧ x = blV o (nI p) x0 ∧ g = 0) ∨ (w = 1 ∧ l = mvL o o ∧ x = mvV o o (nI p) mm x0 ∧ g = 0) ∨ (w = 2 ∧ l = lkL o o ∧ x = lkV o o (nI p) mm x0 ∧ g = 0) ∨ ((¬ w = 0 ∧ ¬ w = 1 ∧ ¬ w = 2) ∧ l = ptL o o (nI p) mm ∧ x = ptV o o (nI p) mm x0 ∧ g = b2i (mm - nI p = 0))) ∧ im' 34 1 = nI l.length ∧ (∀ k, k < l.length → im' 35 k = l.getD k 0) ∧ im' 33 1 = g ∧ ∀ a k, ¬ (33 ≤ a ∧ a ≤ 35) → im' a k = im a k) := by
  refine SpI.of [some (.ref 33), some (.ref (16 + p)), some (.int (nI p)), some (.int w), some (.int x0)] rfl (by decide) rfl (fun Q hQ => ?_)
  refine bX8_say_0 (pX6_clear xtr.1) ?_
  rintro _ rfl
  have hV : VC (xup (xup (xup (xup (xup im 34 1 0) 33 1 0) 33 2 (nI o)) 33 3 (nI p)) 33 4 mm) o p mm 0 := by
    refine ⟨?_, ?_, xup_at, ?_⟩
    · rw [xup_ne (by decide), xup_ne (by decide), xup_at]
    · rw [xup_ne (by decide), xup_at]
    · rw [xup_o (by decide), xup_o (by decide), xup_o (by decide), xup_o (by decide), xup_at]; rfl
  have h15 : (xup (xup (xup (xup (xup im 34 1 0) 33 1 0) 33 2 (nI o)) 33 3 (nI p)) 33 4 mm) 33 1 = 0 := by
    rw [xup_ne (by decide), xup_ne (by decide), xup_ne (by decide), xup_at]
  have e0 : xup (xup (xup (xup (xup im 34 1 0) 33 1 0) 33 2 ((xup (xup im 34 1 0) 33 1 0) (16 + p) 0)) 33 3 (nI p)) 33 4 ((xup (xup (xup (xup im 34 1 0) 33 1 0) 33 2 ((xup (xup im 34 1 0) 33 1 0) (16 + p) 0)) 33 3 (nI p)) (16 + p) 1) = xup (xup (xup (xup (xup im 34 1 0) 33 1 0) 33 2 (nI o)) 33 3 (nI p)) 33 4 mm := by
    have a0 : (xup (xup im 34 1 0) 33 1 0) (16 + p) 0 = nI o := by rw [xup_o (by omega), xup_o (by omega)]; exact h0
    rw [a0]
    have a1 : (xup (xup (xup (xup im 34 1 0) 33 1 0) 33 2 (nI o)) 33 3 (nI p)) (16 + p) 1 = mm := by rw [xup_o (by omega), xup_o (by omega), xup_o (by omega), xup_o (by omega)]; exact h1
    rw [a1]
  obtain ⟨I, hIe⟩ : ∃ I, I = xup (xup (xup (xup (xup im 34 1 0) 33 1 0) 33 2 (nI o)) 33 3 (nI p)) 33 4 mm := ⟨_, rfl⟩
  rw [← hIe] at hV h15 e0
  have hkI : ∀ a k, ¬ (33 ≤ a ∧ a ≤ 35) → I a k = im a k := by
    intro a k ha
    rw [hIe, xup_o (by omega), xup_o (by omega), xup_o (by omega), xup_o (by omega), xup_o (by omega)]
  have tl : ∀ l : List Int32, (trC I 0 l) 34 1 = nI l.length ∧ (∀ k, k < l.length → (trC I 0 l) 35 k = l.getD k 0) ∧ (∀ a k, ¬ (33 ≤ a ∧ a ≤ 35) → (trC I 0 l) a k = im a k) ∧ (trC I 0 l) 33 1 = 0 := by
    intro l
    obtain ⟨t1, _, t3⟩ := trC_len (im := I) (n := 0) (l := l) hV.2.2.2
    rw [Nat.zero_add] at t1
    refine ⟨t1, fun k hk => by have := t3 k hk; rw [Nat.zero_add] at this; exact this, fun a k ha => by rw [trC_o (by omega)]; exact hkI a k ha, (trC_o (by decide)).trans h15⟩
  have leaf : ∀ (l : List Int32) (x : Int32), ((w = 0 ∧ l = blL o ∧ x = blV o (nI p) x0) ∨ (w = 1 ∧ l = mvL o o ∧ x = mvV o o (nI p) mm x0) ∨ (w = 2 ∧ l = lkL o o ∧ x = lkV o o (nI p) mm x0)) → Q (some (.int x)) (SC bo) (trC I 0 l) := by
    intro l x h
    obtain ⟨t1, t2, t3, t4⟩ := tl l
    refine hQ _ _ ⟨l, 0, h.elim (fun h => Or.inl ⟨h.1, h.2.1, h.2.2, rfl⟩) (fun h => h.elim (fun h => Or.inr (Or.inl ⟨h.1, h.2.1, h.2.2, rfl⟩)) (fun h => Or.inr (Or.inr (Or.inl ⟨h.1, h.2.1, h.2.2, rfl⟩)))), t1, t2, t4, t3⟩
  refine bX8_say_7 hK (fun c => ?_) (fun c => ?_) (fun c => ?_) (fun c c1 c2 => ?_)
  · rw [e0]
    refine bX8_say_60 (by rw [hV.1]; exact pX8_blinks (n := 0) ho hV ho (by omega)) ?_
    rintro _ _ ⟨rfl, rfl⟩
    refine bX8_say_70 ?_
    exact leaf _ _ (Or.inl ⟨c, rfl, rfl⟩)
  · rw [e0]
    refine bX8_say_71 (by rw [hV.1]; exact pX8_moves (n := 0) ho hV ho (by omega)) ?_
    rintro _ _ ⟨rfl, rfl⟩
    refine bX8_say_81 ?_
    exact leaf _ _ (Or.inr (Or.inl ⟨c, rfl, rfl⟩))
  · rw [e0]
    refine bX8_say_82 (by rw [hV.1]; exact pX8_looks (n := 0) ho hV ho (by omega)) ?_
    rintro _ _ ⟨rfl, rfl⟩
    refine bX8_say_92 ?_
    exact leaf _ _ (Or.inr (Or.inr ⟨c, rfl, rfl⟩))
  · rw [e0]
    refine bX8_say_93 (by rw [hV.1]; exact pX8_parts (n := 0) ho hV ho (by omega)) ?_
    rintro _ _ ⟨rfl, rfl⟩
    refine bX8_say_103 ?_
    obtain ⟨t1, t2, t3, t4⟩ := tl (ptL o o (nI p) mm)
    refine hQ _ _ ⟨_, _, Or.inr (Or.inr (Or.inr ⟨⟨c, c1, c2⟩, rfl, rfl, rfl⟩)), ?_, fun k hk => ?_, xup_at, fun a k ha => ?_⟩
    · rw [xup_o (by decide)]; exact t1
    · rw [xup_o (by decide)]; exact t2 k hk
    · rw [xup_o (by omega)]; exact t3 a k ha
theorem pX9_voice {d : Nat} {im : XI} {bo : Bool} {s : Nat → Int32} {np nd : Nat} {v w x0 : Int32} (hR : RI 0 s im) (hI : Iv s np nd) : SpI mX9_voice (d + 10) [.ref 0, .int v, .int w, .int x0] (SC bo) im (fun x im' => opVoiceC im s v w x0 x im') := by
  refine SpI.of [some (.ref 0), some (.int v), some (.int w), some (.int x0), none] rfl (by decide) rfl (fun Q hQ => ?_)
  have hnp := hI.1.1
  have hnd := hI.2.1.1
  have bad : ¬ okVo s v w → V mX9_voice (d + 10) (0, 0) 20 [some (.ref 0), some (.int v), some (.int w), some (.int x0), none] [] (SC bo) im Q := by
    intro h
    refine bX9_voice_20 (pX9_fail (k := 1) (by decide) (by decide) (by decide)) ?_
    rintro _ _ ⟨rfl, rfl⟩
    refine bX9_voice_26 ?_
    refine hQ _ _ ?_
    unfold opVoiceC
    rw [if_pos h]
    exact Pc.er hI rfl hR kK.rf (by decide)
  refine bX9_voice_0 (pX2_hasPerson hR) ?_
  rintro xg0 im1 ⟨hx, hm⟩
  subst hm
  refine bX9_voice_8 (fun c => ?_) (fun c => ?_)
  · rw [hx, b2i_z] at c
    exact bad (fun h => c h.1)
  rw [hx, b2i_nz] at c
  have g0 := c
  clear c
  clear hx
  refine bX9_voice_11 pX9_within ?_
  rintro xg1 im1 ⟨hx, hm⟩
  subst hm
  refine bX9_voice_17 (fun c => ?_) (fun c => ?_)
  rotate_left
  · rw [hx, b2i_z] at c
    exact bad (fun h => c h.2)
  rw [hx, b2i_nz] at c
  have g1 := c
  clear c
  clear hx
  have hc1 : okVo s v w := ⟨g0, g1⟩
  obtain ⟨p, hp, rfl⟩ := (in_n (n := np) (by have := hI.1.1; omega)).mp (show 0 ≤ v ∧ v ≤ nI np - 1 by rw [← hI.1.2.1]; exact g0)
  have hvp : nnat (nI p) = p := nnat_nI (by have := hI.1.1; omega)
  obtain ⟨p0, p1, p2, p3⟩ := hR.per hI hp
  obtain ⟨o, ho7, hoe⟩ := (hI.1.2.2 p hp).1
  have hoo : nnat (s (8 + 4 * p)) = o := by rw [hoe]; exact nnat_nI (by omega)
  refine bX9_voice_27 rfl (by omega) (pX8_say (xperson (by omega)) ho7 (by omega) (p0.trans hoe) p1) ?_
  rintro x im2 ⟨l, gg, hcase, t1, t2, t3, t4⟩
  have hR2 : RI 0 s im2 := hR.ext hI (fun a _ _ _ _ => by funext k; exact t4 a k (by omega))
  have hkV : kV im im2 := fun a k ha => t4 a k (by omega)
  have hres : voL s p w = l ∧ ((gg = 0 ∧ voR s p w x0 = rO x s) ∨ (¬ gg = 0 ∧ voR s p w x0 = rE 6 s)) := by
    unfold voR voL voV
    rw [hoo]
    rcases hcase with ⟨hw, hl, hx, hg⟩ | ⟨hw, hl, hx, hg⟩ | ⟨hw, hl, hx, hg⟩ | ⟨⟨h0, h1, h2⟩, hl, hx, hg⟩
    · rw [if_pos hw, if_neg (fun h => h.1 hw), if_pos hw]
      exact ⟨hl.symm, Or.inl ⟨hg, by rw [hx]⟩⟩
    · have hn0 : ¬ w = 0 := by rw [hw]; decide
      rw [if_neg hn0, if_pos hw, if_neg (fun h => h.2.1 hw), if_neg hn0, if_pos hw]
      exact ⟨hl.symm, Or.inl ⟨hg, by rw [hx]⟩⟩
    · have hn0 : ¬ w = 0 := by rw [hw]; decide
      have hn1 : ¬ w = 1 := by rw [hw]; decide
      rw [if_neg hn0, if_neg hn1, if_pos hw, if_neg (fun h => h.2.2.1 hw), if_neg hn0, if_neg hn1, if_pos hw]
      exact ⟨hl.symm, Or.inl ⟨hg, by rw [hx]⟩⟩
    · rw [if_neg h0, if_neg h1, if_neg h2]
      refine ⟨hl.symm, ?_⟩
      by_cases hd : s (9 + 4 * p) - nI p = 0
      · rw [if_pos ⟨h0, h1, h2, hd⟩]
        exact Or.inr ⟨by rw [hg, b2i_t hd]; decide, rfl⟩
      · rw [if_neg (fun h => hd h.2.2.2), if_neg h0, if_neg h1, if_neg h2]
        exact Or.inl ⟨by rw [hg, b2i_f hd], by rw [hx]⟩
  obtain ⟨hL, hres⟩ := hres
  refine bX9_voice_46 (fun c => ?_) (fun c => ?_)
  · rw [t3] at c
    have hr := (hres.resolve_right (fun h => h.1 c)).2
    refine bX9_voice_66 ?_
    refine hQ _ _ ?_
    unfold opVoiceC
    rw [if_neg (not_not_intro hc1), hvp, hr, hL]
    exact ⟨rfl, hR2, hkV, t1, t2⟩
  · rw [t3] at c
    have hr := (hres.resolve_left (fun h => c h.1)).2
    refine bX9_voice_58 (pX9_fail (k := 6) (by decide) (by decide) (by decide)) ?_
    rintro _ _ ⟨rfl, rfl⟩
    refine bX9_voice_65 ?_
    refine hQ _ _ ?_
    unfold opVoiceC
    rw [if_neg (not_not_intro hc1), hvp, hr, hL]
    refine ⟨rfl, hR2.er hI, ?_, ?_, fun k hk => ?_⟩
    · intro a k ha
      have e1 : im2 37 6 = im 37 6 := t4 37 6 (by omega)
      show xup im2 37 6 _ a k = xup im 37 6 (im 37 6 + 1) a k
      rw [e1]
      simp only [xup]
      by_cases h : a = 37 ∧ k = 6
      · rw [if_pos h, if_pos h]
      · rw [if_neg h, if_neg h]
        exact t4 a k (by omega)
    · rw [xup_o (by decide)]; exact t1
    · rw [xup_o (by decide)]; exact t2 k hk

theorem pX10_partsAll {d : Nat} {im : XI} {s : Nat → Int32} {np nd : Nat} {z0 : Int32} (hs : im 1 = s) (hI : Iv s np nd) (hsz : ∀ z, z < 4 → ∃ m : Nat, m ≤ 24 ∧ im 10 z = nI m) : SpI mX10_partsAll (d + 3) [.ref 0, .int z0] SM im (fun x im' => Pm im (opPartsAll s (im 9) (im 10) (im 11) z0) x im') := by
  refine SpI.of [some (.ref 0), some (.int z0), none, none] rfl (by decide) rfl (fun Q hQ => ?_)
  refine bX10_partsAll_0 (pX10_lacks rfl) ?_
  rintro _ _ ⟨rfl, rfl⟩
  by_cases c3 : okSh z0
  · obtain ⟨z, hz3, rfl⟩ := (in_c (x := z0) (n := 3) rfl (by decide)).mp c3
    have hz4 : z < 4 := by omega
    have hzn : nnat (nI z) = z := nnat_nI (by omega)
    unfold lack0
    rw [if_neg (not_not_intro c3), hzn]
    by_cases hc2 : im 9 z = 0
    · rw [if_pos hc2]
      refine bX10_partsAll_5 (fun c => absurd c (by decide)) (fun _ => ?_)
      refine bX10_partsAll_10 (pX10_error (k := 2) rfl (by decide)) ?_
      rintro _ _ ⟨rfl, rfl⟩
      refine bX10_partsAll_15 ?_
      refine hQ _ _ ?_
      unfold opPartsAll
      rw [if_neg (not_not_intro c3), hzn, if_pos hc2]
      exact Pm.er rfl hs mk.rf (by decide)
    · rw [if_neg hc2]
      refine bX10_partsAll_5 (fun _ => ?_) (fun c => absurd rfl c)
      refine bX10_partsAll_16 ?_
      obtain ⟨m, hm, hz⟩ := hsz z hz4
      have hmn : nnat (nI m) = m := nnat_nI (by omega)
      have fin : ∀ (f n : Nat) (s1 : Nat → Int32) (im1 : XI), im1 1 = s1 → mk im im1 → paR m (fun k => im 11 (24 * z + k)) (f + 1) n s1 = paR m (fun k => im 11 (24 * z + k)) 7 0 s → ¬ paOk s1 m (fun k => im 11 (24 * z + k)) n → V mX10_partsAll (d + 3) (0, 0) 79 [some (.ref 0), some (.int (nI z)), some (.int 0), some (.int (nI n))] [] SM im1 Q := by
        intro f n s1 im1 hs1 hm1 hE hk
        refine bX10_partsAll_79 ?_
        refine hQ _ _ ?_
        unfold opPartsAll
        rw [if_neg (not_not_intro c3), hzn, if_neg hc2, hz, hmn, ← hE]
        unfold paR
        rw [if_neg hk]
        exact Pm.ok rfl hs1 hm1
      have key : ∀ (f n : Nat) (s1 : Nat → Int32) (im1 : XI), 7 = n + f → n ≤ nd → im1 1 = s1 → s1 5 = nI nd → mk im im1 → paR m (fun k => im 11 (24 * z + k)) f n s1 = paR m (fun k => im 11 (24 * z + k)) 7 0 s → V mX10_partsAll (d + 3) (0, 0) 18 [some (.ref 0), some (.int (nI z)), some (.int 0), some (.int (nI n))] [] SM im1 Q := by
        intro f
        induction f with
        | zero => intro n s1 im1 a1 a2; have := hI.2.1.1; omega
        | succ f ih =>
          intro n s1 im1 a1 a2 hs1 h5 hm1 hE
          have hnd := hI.2.1.1
          have h10 : im1 10 z = nI m := (hm1 10 z (by simp [mgb])).trans hz
          have h11 : ∀ q, im1 11 q = im 11 q := fun q => hm1 11 q (by simp [mgb])
          have hnn : nnat (s1 5) = nd := by rw [h5]; exact nnat_nI (by omega)
          refine bX10_partsAll_18 rfl hz4 (fun c => ?_) (fun c => ?_)
          · rw [h10] at c
            have hmn := ge_i (by omega) (by omega) c
            exact fin f n s1 im1 hs1 hm1 hE (fun h => by have := h.1; omega)
          · rw [h10] at c
            have hnm := lt_i (by omega) (by omega) c
            refine bX10_partsAll_28 (qX10_isDoing hs1) ?_
            rintro _ _ ⟨rfl, rfl⟩
            refine bX10_partsAll_33 (fun c2 => ?_) (fun c2 => ?_)
            · rw [b2i_z, okD_n h5 hnd (by omega)] at c2
              exact fin f n s1 im1 hs1 hm1 hE (fun h => c2 (by rw [← hnn]; exact h.2.1))
            · rw [b2i_z, Classical.not_not, okD_n h5 hnd (by omega)] at c2
              refine bX10_partsAll_36 (i1 := 24 * z + n) (by rw [show (24 : Int32) = nI 24 from rfl, pk_mul, nI_add]) (by omega) pX10_in ?_
              rintro _ _ ⟨rfl, rfl⟩
              rw [h11]
              refine bX10_partsAll_53 (fun c4 => ?_) (fun c4 => ?_)
              · rw [b2i_z] at c4
                exact fin f n s1 im1 hs1 hm1 hE (fun h => c4 h.2.2)
              · rw [b2i_z, Classical.not_not] at c4
                have hok : paOk s1 m (fun k => im 11 (24 * z + k)) n := ⟨hnm, by rw [hnn]; exact c2, c4⟩
                refine bX10_partsAll_56 (i1 := 24 * z + n) (by rw [show (24 : Int32) = nI 24 from rfl, pk_mul, nI_add]) (by omega) (qX10_laysDoing (p := n) (w := 1) (i := 33 + 3 * n) hs1 rfl rfl (by omega) (by omega)) ?_
                rintro im2 ⟨hs2, hm2⟩
                rw [h11] at hs2
                refine bX10_partsAll_73 ?_
                rw [nI_1]
                refine ih (n + 1) _ _ (by omega) (by omega) hs2 (by rw [upd_ne (by omega)]; exact h5) (hm1.tr hm2) ?_
                rw [← hE]
                conv => rhs; unfold paR
                rw [if_pos hok]
      exact key 7 0 s im rfl (by omega) hs hI.2.1.2.1 mk.rf rfl
  · unfold lack0
    rw [if_pos c3]
    refine bX10_partsAll_5 (fun c => absurd c (by decide)) (fun _ => ?_)
    refine bX10_partsAll_10 (pX10_error (k := 1) rfl (by decide)) ?_
    rintro _ _ ⟨rfl, rfl⟩
    refine bX10_partsAll_15 ?_
    refine hQ _ _ ?_
    unfold opPartsAll
    rw [if_pos c3]
    exact Pm.er rfl hs mk.rf (by decide)
theorem pX10_judge {d : Nat} {im : XI} {s : Nat → Int32} {np nd : Nat} {z0 : Int32} (hs : im 1 = s) (hI : Iv s np nd) (hsz : ∀ z, z < 4 → ∃ m : Nat, m ≤ 24 ∧ im 10 z = nI m) : SpI mX10_judge (d + 5) [.ref 0, .int z0] SM im (fun x im' => Pm im (opJudge s (im 9) (im 10) (im 11) z0) x im') := by
  refine SpI.of [some (.ref 0), some (.int z0), none, none, none] rfl (by decide) rfl (fun Q hQ => ?_)
  refine bX10_judge_0 (pX10_lacks rfl) ?_
  rintro _ _ ⟨rfl, rfl⟩
  by_cases c3 : okSh z0
  · obtain ⟨z, hz3, rfl⟩ := (in_c (x := z0) (n := 3) rfl (by decide)).mp c3
    have hz4 : z < 4 := by omega
    have hzn : nnat (nI z) = z := nnat_nI (by omega)
    unfold lack0
    rw [if_neg (not_not_intro c3), hzn]
    by_cases hc2 : im 9 z = 0
    · rw [if_pos hc2]
      refine bX10_judge_5 (fun c => absurd c (by decide)) (fun _ => ?_)
      refine bX10_judge_10 (pX10_error (k := 2) rfl (by decide)) ?_
      rintro _ _ ⟨rfl, rfl⟩
      refine bX10_judge_15 ?_
      refine hQ _ _ ?_
      unfold opJudge
      rw [if_neg (not_not_intro c3), hzn, if_pos hc2]
      exact Pm.er rfl hs mk.rf (by decide)
    · rw [if_neg hc2]
      refine bX10_judge_5 (fun _ => ?_) (fun c => absurd rfl c)
      refine bX10_judge_16 ?_
      obtain ⟨m, hm, hz⟩ := hsz z hz4
      have hmn : nnat (nI m) = m := nnat_nI (by omega)
      have fin : ∀ (f n : Nat) (im1 : XI), im1 1 = upd s 0 (s 0 + nI n) → mk im im1 → jgR s m (fun k => im 11 (24 * z + k)) (f + 1) n = jgR s m (fun k => im 11 (24 * z + k)) 25 0 → ¬ (n < m ∧ allT s (s 0 + nI n) = im 11 (24 * z + n)) → V mX10_judge (d + 5) (0, 0) 72 [some (.ref 0), some (.int (nI z)), some (.int 0), some (.int (s 0)), some (.int (nI n))] [] SM im1 Q := by
        intro f n im1 hs1 hm1 hE hk
        refine bX10_judge_72 ?_
        refine hQ _ _ ?_
        unfold opJudge
        rw [if_neg (not_not_intro c3), hzn, if_neg hc2, hz, hmn, ← hE]
        unfold jgR
        rw [if_neg hk]
        exact Pm.ok rfl (by rw [xup_s, hs1, upd_upd, upd_self rfl]) (hm1.up (mg1 _))
      have key : ∀ (f n : Nat) (im1 : XI), 25 = n + f → n ≤ m → im1 1 = upd s 0 (s 0 + nI n) → mk im im1 → jgR s m (fun k => im 11 (24 * z + k)) f n = jgR s m (fun k => im 11 (24 * z + k)) 25 0 → V mX10_judge (d + 5) (0, 0) 26 [some (.ref 0), some (.int (nI z)), some (.int 0), some (.int (s 0)), some (.int (nI n))] [] SM im1 Q := by
        intro f
        induction f with
        | zero => intro n im1 a1 a2; omega
        | succ f ih =>
          intro n im1 a1 a2 hs1 hm1 hE
          have h10 : im1 10 z = nI m := (hm1 10 z (by simp [mgb])).trans hz
          refine bX10_judge_26 rfl hz4 (fun c => ?_) (fun c => ?_)
          · rw [h10] at c
            have hmn := ge_i (by omega) (by omega) c
            exact fin f n im1 hs1 hm1 hE (fun h => by have := h.1; omega)
          · rw [h10] at c
            have hnm := lt_i (by omega) (by omega) c
            refine bX10_judge_37 (pX10_shutNow hs1 (Iv_free hI (Or.inl rfl))) ?_
            rintro _ im2 ⟨rfl, hs2, hm2⟩
            rw [shutAll_up hI]
            have hm3 := hm1.tr hm2
            have h11 : ∀ q, im2 11 q = im 11 q := fun q => hm3 11 q (by simp [mgb])
            refine bX10_judge_41 (i1 := 24 * z + n) (by rw [show (24 : Int32) = nI 24 from rfl, pk_mul, nI_add]) (by omega) (fun c4 => ?_) (fun c4 => ?_)
            · rw [h11] at c4
              exact fin f n im2 hs2 hm3 hE (fun h => c4 h.2)
            · rw [h11] at c4
              refine bX10_judge_56 ?_
              rw [nI_1]
              refine ih (n + 1) _ (by omega) (by omega) ?_ (hm3.up (mg1 _)) ?_
              · rw [xup_s, hs2, upd_at, upd_upd, Int32.add_assoc, nI_1]
              · rw [← hE]
                conv => rhs; unfold jgR
                rw [if_pos ⟨hnm, c4⟩]
      rw [hs]
      exact key 25 0 im rfl (by omega) (by rw [hs, upd_self (show s 0 = s 0 + nI 0 by rw [nI_0, Int32.add_zero])]) mk.rf rfl
  · unfold lack0
    rw [if_pos c3]
    refine bX10_judge_5 (fun c => absurd c (by decide)) (fun _ => ?_)
    refine bX10_judge_10 (pX10_error (k := 1) rfl (by decide)) ?_
    rintro _ _ ⟨rfl, rfl⟩
    refine bX10_judge_15 ?_
    refine hQ _ _ ?_
    unfold opJudge
    rw [if_pos c3]
    exact Pm.er rfl hs mk.rf (by decide)
theorem pX10_image {d : Nat} {im : XI} {s : Nat → Int32} (hs : im 1 = s) : SpI mX10_image (d + 1) [.ref 0] SM im (fun x im' => opImage im s x im') := by
  refine SpI.of [some (.ref 0)] rfl (by decide) rfl (fun Q hQ => ?_)
  refine bX10_image_0 (pX10_copyAll (by decide) ⟨rfl, rfl⟩ ⟨rfl, rfl⟩) ?_
  rintro _ rfl
  refine bX10_image_11 ?_
  have e : (ovl im 2 1 384) 0 3 = im 0 3 := rfl
  exact hQ _ _ ⟨by rw [xup_at, e], by rw [e]⟩
theorem pX10_restore {d : Nat} {im : XI} {s : Nat → Int32} (hs : im 1 = s) : SpI mX10_restore (d + 1) [.ref 0] SM im (fun x im' => opRestore im s x im') := by
  refine SpI.of [some (.ref 0)] rfl (by decide) rfl (fun Q hQ => ?_)
  refine bX10_restore_0 (fun c => ?_) (fun c => ?_)
  · refine bX10_restore_13 (pX10_copyAll (by decide) ⟨rfl, rfl⟩ ⟨rfl, rfl⟩) ?_
    rintro _ rfl
    refine bX10_restore_24 ?_
    refine hQ _ _ ?_
    unfold opRestore
    rw [if_neg c]
    exact ⟨rfl, rfl⟩
  · skip
    refine bX10_restore_7 (pX10_error (k := 2) rfl (by decide)) ?_
    rintro _ _ ⟨rfl, rfl⟩
    refine bX10_restore_12 ?_
    refine hQ _ _ ?_
    unfold opRestore
    rw [if_pos c]
    exact Pm.er rfl hs mk.rf (by decide)

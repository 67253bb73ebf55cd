theorem pX10_fits {d : Nat} {im : XI} {s : Nat → Int32} {np nd : Nat} {z0 v wh : Int32} (hs : im 1 = s) (hI : Iv s np nd) (hsz : ∀ z, z < 4 → ∃ m : Nat, m ≤ 24 ∧ im 10 z = nI m) : SpI mX10_fits (d + 5) [.ref 0, .int z0, .int v, .int wh] SM im (fun x im' => Pm im (opFits s (im 9) (im 10) (im 11) z0 v wh) x im') := by
  refine SpI.of [some (.ref 0), some (.int z0), some (.int v), some (.int wh), none, none, none, none, none, none] rfl (by decide) rfl (fun Q hQ => ?_)
  refine bX10_fits_0 (qX10_isPerson hs) ?_
  rintro _ _ ⟨rfl, rfl⟩
  have bad : ¬ (okP s v ∧ (0 ≤ wh ∧ wh ≤ 1) ∧ okSh z0) → ∀ L8 : List (Option Value), L8 = [some (.ref 0), some (.int z0), some (.int v), some (.int wh), none, none, none, none, none, none] → V mX10_fits (d + 5) (0, 0) 26 L8 [.int 1] SM im Q := by
    rintro h _ rfl
    refine bX10_fits_26 (fun c => absurd c (by decide)) (fun _ => ?_)
    refine bX10_fits_33 (pX10_error (k := 1) rfl (by decide)) ?_
    rintro _ _ ⟨rfl, rfl⟩
    refine bX10_fits_39 ?_
    refine hQ _ _ ?_
    unfold opFits
    rw [if_pos h]
    exact Pm.er rfl hs mk.rf (by decide)
  refine bX10_fits_5 (fun c => ?_) (fun c => ?_)
  · rw [b2i_z] at c
    exact bX10_fits_25 (bad (fun h => c h.1) _ rfl)
  rw [b2i_z, Classical.not_not] at c
  refine bX10_fits_8 pX10_in ?_
  rintro _ _ ⟨rfl, rfl⟩
  refine bX10_fits_14 (fun c2 => ?_) (fun c2 => ?_)
  · rw [b2i_z] at c2
    exact bX10_fits_25 (bad (fun h => c2 h.2.1) _ rfl)
  rw [b2i_z, Classical.not_not] at c2
  refine bX10_fits_17 (pX10_lacks rfl) ?_
  rintro _ _ ⟨rfl, rfl⟩
  refine bX10_fits_22 ?_
  by_cases c3 : okSh z0
  · have hc1 : okP s v ∧ (0 ≤ wh ∧ wh ≤ 1) ∧ okSh z0 := ⟨c, c2, c3⟩
    have h4 := hI.1.2.1
    have hnp := hI.1.1
    obtain ⟨p, hp, rfl⟩ := (in_n (n := np) (by omega)).mp (show 0 ≤ v ∧ v ≤ nI np - 1 by rw [← h4]; exact c)
    have hv : nnat (nI p) = p := nnat_nI (by omega)
    obtain ⟨z, hz3, rfl⟩ := (in_c (x := z0) (n := 3) rfl (by decide)).mp c3
    have hz4 : z < 4 := by omega
    unfold lack0
    rw [if_neg (not_not_intro c3), nnat_nI (n := z) (by omega)]
    by_cases hc2 : im 9 z = 0
    · rw [if_pos hc2]
      refine bX10_fits_26 (fun c => absurd c (by decide)) (fun _ => ?_)
      refine bX10_fits_33 (pX10_error (k := 2) rfl (by decide)) ?_
      rintro _ _ ⟨rfl, rfl⟩
      refine bX10_fits_39 ?_
      refine hQ _ _ ?_
      unfold opFits
      rw [if_neg (not_not_intro hc1), nnat_nI (n := z) (by omega), if_pos hc2]
      exact Pm.er rfl hs mk.rf (by decide)
    · rw [if_neg hc2]
      refine bX10_fits_26 (fun _ => ?_) (fun c => absurd rfl c)
      refine bX10_fits_40 ?_
      obtain ⟨m, hm, hz⟩ := hsz z hz4
      have hC01 : ∀ b f, (fitC s (im 11) z m p) b f = 0 ∨ (fitC s (im 11) z m p) b f = 1 := fun b f => fitC_01 _ _ _ _ _ _ _
      have fin : ∀ im1 : XI, im1 1 = s → mkL im im1 → V mX10_fits (d + 5) (0, 0) 125 [some (.ref 0), some (.int (nI z)), some (.int (nI p)), some (.int wh), some (.int 0), some (.int (totC (fitC s (im 11) z m p) 12)), some (.int (totF (fitC s (im 11) z m p) 12)), some (.int 0), none, none] [] SM im1 Q := by
        intro im1 hs1 hm1
        refine bX10_fits_125 (fun c => ?_) (fun c => ?_)
        · refine bX10_fits_134 (fun c2 => ?_) (fun c2 => ?_)
          · refine bX10_fits_148 ?_
            refine bX10_fits_150 ?_
            refine hQ _ _ ?_
            unfold opFits
            rw [if_neg (not_not_intro hc1), nnat_nI (n := z) (by omega), if_neg hc2, if_neg c, hz, nnat_nI (n := m) (by omega), hv, if_neg c2]
            exact Pm.okL rfl hs1 hm1
          · refine bX10_fits_140 (pX10_error (k := 2) rfl (by decide)) ?_
            rintro _ _ ⟨rfl, rfl⟩
            refine bX10_fits_145 ?_
            refine bX10_fits_150 ?_
            refine hQ _ _ ?_
            unfold opFits
            rw [if_neg (not_not_intro hc1), nnat_nI (n := z) (by omega), if_neg hc2, if_neg c, hz, nnat_nI (n := m) (by omega), hv, if_pos c2]
            exact Pm.erL rfl hs1 hm1 (by decide)
        · refine bX10_fits_129 ?_
          refine bX10_fits_150 ?_
          refine hQ _ _ ?_
          unfold opFits
          rw [if_neg (not_not_intro hc1), nnat_nI (n := z) (by omega), if_neg hc2, if_pos c, hz, nnat_nI (n := m) (by omega), hv]
          exact Pm.okL rfl hs1 hm1
      have key : ∀ (b : Nat) (many first : Int32) (im1 : XI), b ≤ 12 → im1 1 = s → mkL im im1 → im1 11 = im 11 → im1 10 = im 10 → totC (fitC s (im 11) z m p) 12 = totC (fitC s (im 11) z m p) b + many → totF (fitC s (im 11) z m p) 12 = (if ¬ totF (fitC s (im 11) z m p) b = -1 then totF (fitC s (im 11) z m p) b else first) → V mX10_fits (d + 5) (0, 0) 50 [some (.ref 0), some (.int (nI z)), some (.int (nI p)), some (.int wh), some (.int 0), some (.int many), some (.int first), some (.int (nI b)), none, none] [] SM im1 Q := by
        intro b
        induction b with
        | zero =>
          intro many first im1 hb12 hs1 hm1 hn1 hn2 hC hF
          refine bX10_fits_50 (fun c => ?_) (fun c => absurd (by decide) c)
          have e1 : many = totC (fitC s (im 11) z m p) 12 := by rw [hC]; exact (Int32.zero_add _).symm
          have e2 : first = totF (fitC s (im 11) z m p) 12 := by rw [hF]; exact (if_neg (not_not_intro rfl)).symm
          rw [e1, e2]
          exact fin im1 hs1 hm1
        | succ b ihb =>
          intro many first im1 hb12 hs1 hm1 hn1 hn2 hC hF
          refine bX10_fits_50 (fun c => ?_) (fun c => ?_)
          · exact absurd ((nI_le0 (by omega)).mp c) (by omega)
          · refine bX10_fits_55 ?_
            have hCs : totC (fitC s (im 11) z m p) (b + 1) = totC (fitC s (im 11) z m p) b + rowC (fitC s (im 11) z m p) (b + 1) (b + 1) := rfl
            have hFs : totF (fitC s (im 11) z m p) (b + 1) = if ¬ totF (fitC s (im 11) z m p) b = -1 then totF (fitC s (im 11) z m p) b else rowF (fitC s (im 11) z m p) (b + 1) (b + 1) := rfl
            have inner : ∀ (f : Nat) (many first : Int32) (im1 : XI), f ≤ b + 1 → im1 1 = s → mkL im im1 → im1 11 = im 11 → im1 10 = im 10 → totC (fitC s (im 11) z m p) 12 = totC (fitC s (im 11) z m p) b + (rowC (fitC s (im 11) z m p) (b + 1) f + many) → totF (fitC s (im 11) z m p) 12 = (if ¬ totF (fitC s (im 11) z m p) b = -1 then totF (fitC s (im 11) z m p) b else if ¬ rowF (fitC s (im 11) z m p) (b + 1) f = -1 then rowF (fitC s (im 11) z m p) (b + 1) f else first) → V mX10_fits (d + 5) (0, 0) 61 [some (.ref 0), some (.int (nI z)), some (.int (nI p)), some (.int wh), some (.int 0), some (.int many), some (.int first), some (.int (nI (b + 1))), some (.int (nI f - 1)), none] [] SM im1 Q := by
              intro f
              induction f with
              | zero =>
                intro many first im1 hf hs1 hm1 hn1 hn2 hC hF
                refine bX10_fits_61 (fun c => ?_) (fun c => absurd ((nI_m1lt (by omega)).mpr rfl) c)
                refine bX10_fits_119 ?_
                rw [i_m1, nI_sm1]
                refine ihb _ _ _ (by omega) hs1 hm1 hn1 hn2 ?_ ?_
                · rw [hC, show rowC (fitC s (im 11) z m p) (b + 1) 0 = 0 from rfl, Int32.zero_add]
                · rw [hF, show rowF (fitC s (im 11) z m p) (b + 1) 0 = -1 from rfl, if_neg (c := ¬ (-1 : Int32) = -1) (not_not_intro rfl)]
              | succ f ihf =>
                intro many first im1 hf hs1 hm1 hn1 hn2 hC hF
                refine bX10_fits_61 (fun c => absurd ((nI_m1lt (by omega)).mp c) (by omega)) (fun c => ?_)
                rw [nI_sm1]
                have hCr : rowC (fitC s (im 11) z m p) (b + 1) (f + 1) = rowC (fitC s (im 11) z m p) (b + 1) f + (fitC s (im 11) z m p) (b + 1) f := rfl
                have hFr : rowF (fitC s (im 11) z m p) (b + 1) (f + 1) = if ¬ rowF (fitC s (im 11) z m p) (b + 1) f = -1 then rowF (fitC s (im 11) z m p) (b + 1) f else if (fitC s (im 11) z m p) (b + 1) f = 0 then -1 else nI (100 * (b + 1) + f) := rfl
                refine bX10_fits_66 (pX10_isShutSo (z := z) (p := p) (b := b + 1) (f := f) (m := m) hs1 hI hz4 hp (by omega) (by omega) hm (by rw [hn2]; exact hz)) ?_
                rintro _ im2 ⟨rfl, hs2, hm2⟩
                rw [hn1]
                have hm3 := hm1.tr hm2
                have hn3 : im2 11 = im 11 := by funext q; exact hm3 11 q (by simp [mgL])
                have hn4 : im2 10 = im 10 := by funext q; exact hm3 10 q (by simp [mgL])
                refine bX10_fits_76 (fun c2 => ?_) (fun c2 => ?_)
                · refine bX10_fits_89 ?_
                  refine bX10_fits_90 (fun _ => ?_) (fun h => absurd c2 h)
                  refine bX10_fits_109 ?_
                  refine bX10_fits_111 ?_
                  rw [i_m1]
                  refine ihf _ _ _ (by omega) hs2 hm3 hn3 hn4 ?_ ?_
                  · rw [hC, hCr, c2, Int32.add_zero, Int32.add_zero]
                  · rw [hF, hFr, if_pos (c := (fitC s (im 11) z m p) (b + 1) f = 0) c2]
                    by_cases h1 : ¬ rowF (fitC s (im 11) z m p) (b + 1) f = -1
                    · rw [if_pos (c := ¬ rowF (fitC s (im 11) z m p) (b + 1) f = -1) h1, if_pos (c := ¬ rowF (fitC s (im 11) z m p) (b + 1) f = -1) h1]
                    · rw [if_neg (c := ¬ rowF (fitC s (im 11) z m p) (b + 1) f = -1) h1, if_neg (c := ¬ rowF (fitC s (im 11) z m p) (b + 1) f = -1) h1, if_neg (c := ¬ (-1 : Int32) = -1) (not_not_intro rfl)]
                · refine bX10_fits_85 ?_
                  refine bX10_fits_90 (fun h => absurd h c2) (fun _ => ?_)
                  refine bX10_fits_98 ?_
                  refine bX10_fits_111 ?_
                  rw [i_m1]
                  have hone : (fitC s (im 11) z m p) (b + 1) f = 1 := (hC01 _ _).resolve_left c2
                  have e5 : (100 : Int32) * nI (b + 1) + nI f = nI (100 * (b + 1) + f) := by rw [show (100 : Int32) = nI 100 from rfl, pk_mul, nI_add]
                  rw [e5]
                  refine ihf _ _ _ (by omega) hs2 hm3 hn3 hn4 ?_ ?_
                  · rw [hC, hCr, hone, Int32.add_assoc, Int32.add_comm 1 many]
                  · rw [hF, hFr, if_neg (c := (fitC s (im 11) z m p) (b + 1) f = 0) c2]
                    by_cases h1 : ¬ rowF (fitC s (im 11) z m p) (b + 1) f = -1
                    · rw [if_pos (c := ¬ rowF (fitC s (im 11) z m p) (b + 1) f = -1) h1, if_pos (c := ¬ rowF (fitC s (im 11) z m p) (b + 1) f = -1) h1]
                    · rw [if_neg (c := ¬ rowF (fitC s (im 11) z m p) (b + 1) f = -1) h1, if_pos (c := ¬ nI (100 * (b + 1) + f) = -1) (nI_nm1 (by omega))]
            refine inner (b + 1) _ _ _ (by omega) hs1 hm1 hn1 hn2 ?_ ?_
            · rw [hC, hCs, Int32.add_assoc]
            · rw [hF, hFs]
              by_cases h1 : ¬ totF (fitC s (im 11) z m p) b = -1
              · rw [if_pos (c := ¬ totF (fitC s (im 11) z m p) b = -1) h1, if_pos (c := ¬ totF (fitC s (im 11) z m p) b = -1) h1, if_pos (c := ¬ totF (fitC s (im 11) z m p) b = -1) h1]
              · rw [if_neg (c := ¬ totF (fitC s (im 11) z m p) b = -1) h1, if_neg (c := ¬ totF (fitC s (im 11) z m p) b = -1) h1]
      exact key 12 0 (-1) im (by omega) hs mkL.rf rfl rfl (Int32.add_zero _).symm (by by_cases h1 : totF (fitC s (im 11) z m p) 12 = -1 <;> simp [h1])
  · unfold lack0
    rw [if_pos c3]
    exact bad (fun h => c3 h.2.2) _ rfl

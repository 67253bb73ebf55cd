theorem pX10_isDoneWithout {d : Nat} {im : XI} {s : Nat → Int32} {np nd : Nat} {e m : Nat} {g : Int32} (hs : im 1 = s) (hI : Iv s np nd) (he : e < nd) (hm9 : m ≤ 1000) : SpI mX10_isDoneWithout (d + 6) [.ref 0, .int (nI e), .int g, .int (nI m)] SM im (fun x im' => x = b2i (¬ done0 s e (s (34 + 3 * e) &&& (g ^^^ (-1))) m = -1) ∧ im' 1 = s ∧ mkL im im') := by
  refine SpI.of [some (.ref 0), some (.int (nI e)), some (.int g), some (.int (nI m))] rfl (by decide) rfl (fun Q hQ => ?_)
  have hnd := hI.2.1.1
  obtain ⟨w, hw, hwe⟩ := (hI.2.1.2.2 e he).2.2
  obtain ⟨q, hq, hqe⟩ := and_nat (w := w) (by omega) (g ^^^ (-1))
  have hs0 : (ovl im 3 1 50) 1 = s := by rw [lay_1]; exact hs
  refine bX10_isDoneWithout_0 pX10_layDown ?_
  rintro _ rfl
  refine bX10_isDoneWithout_4 (qX10_ofDoing (w := 2) (i := 34 + 3 * e) hs0 rfl rfl rfl (by omega)) ?_
  rintro _ _ ⟨rfl, rfl⟩
  refine bX10_isDoneWithout_13 rfl (qX10_laysDoing (p := e) (w := 2) (i := 34 + 3 * e) hs0 rfl rfl rfl (by omega)) ?_
  rintro im1 ⟨hs1, hm1⟩
  have hI1 : Iv (upd s (34 + 3 * e) (s (34 + 3 * e) &&& (g ^^^ (-1)))) np nd := by rw [hwe, hqe]; exact Iv_watch hI (by omega) (by omega)
  refine bX10_isDoneWithout_20 (pX10_doneBy (m := m) (s := s) hs1 hI1 he rfl hm9 (fun q hq => lay_3 hs hm1 hq) (fun q hq => upd_ne (by omega))) ?_
  rintro _ im2 ⟨rfl, hs2, hm2⟩
  rw [upd_at, done0_w hI he]
  have hmm := (mkL_lay im).tr (hm1.tr hm2).L
  refine bX10_isDoneWithout_26 (fun c => ?_) (fun c => ?_)
  · refine bX10_isDoneWithout_34 ?_
    refine bX10_isDoneWithout_35 (Or.inl rfl) ?_
    exact hQ _ _ ⟨(b2i_f (not_not_intro c)).symm, hs2, hmm⟩
  · refine bX10_isDoneWithout_30 ?_
    refine bX10_isDoneWithout_35 (Or.inr rfl) ?_
    exact hQ _ _ ⟨(b2i_t c).symm, hs2, hmm⟩
theorem pX10_away {d : Nat} {im : XI} {s : Nat → Int32} {np nd : Nat} {v n wh : Int32} (hs : im 1 = s) (hI : Iv s np nd) : SpI mX10_away (d + 7) [.ref 0, .int v, .int n, .int wh] SM im (fun x im' => Pm im (opAway s v n wh) x im') := by
  refine SpI.of [some (.ref 0), some (.int v), some (.int n), some (.int wh), none, none, none, none] rfl (by decide) rfl (fun Q hQ => ?_)
  have h4 := hI.1.2.1
  have hnp := hI.1.1
  have h5 := hI.2.1.2.1
  have hnd := hI.2.1.1
  refine bX10_away_0   (qX10_isDoing hs) ?_
  rintro _ _ ⟨rfl, rfl⟩
  try simp only [hs]
  refine bX10_away_5   (fun c2 => ?_) (fun c2 => ?_)
  · skip
    try simp only [b2i_z, Classical.not_not, okP, okD, okSet, hs] at c2
    refine bX10_away_27   (pX10_error (k := 1) rfl (by decide)) ?_
    rintro _ _ ⟨rfl, rfl⟩
    try simp only [hs]
    refine bX10_away_32   ?_
    refine hQ _ _ ?_
    first
      | (rw [show opAway s v n wh = rE _ s from by unfold opAway; rw [if_pos (by grind)]]; exact Pm.er rfl hs mk.rf (by decide))
      | (rw [show opAway s v n wh = rE _ s from by unfold opAway; rw [if_neg (by grind), if_pos (by grind)]]; exact Pm.er rfl hs mk.rf (by decide))
  · skip
    try simp only [b2i_z, Classical.not_not, okP, okD, okSet, hs] at c2
    refine bX10_away_8   pX10_in ?_
    rintro _ _ ⟨rfl, rfl⟩
    try simp only [hs]
    refine bX10_away_15   (fun c5 => ?_) (fun c5 => ?_)
    · skip
      try simp only [b2i_z, Classical.not_not, okP, okD, okSet, hs] at c5
      refine bX10_away_27   (pX10_error (k := 1) rfl (by decide)) ?_
      rintro _ _ ⟨rfl, rfl⟩
      try simp only [hs]
      refine bX10_away_32   ?_
      refine hQ _ _ ?_
      first
        | (rw [show opAway s v n wh = rE _ s from by unfold opAway; rw [if_pos (by grind)]]; exact Pm.er rfl hs mk.rf (by decide))
        | (rw [show opAway s v n wh = rE _ s from by unfold opAway; rw [if_neg (by grind), if_pos (by grind)]]; exact Pm.er rfl hs mk.rf (by decide))
    · skip
      try simp only [b2i_z, Classical.not_not, okP, okD, okSet, hs] at c5
      refine bX10_away_18   pX10_in ?_
      rintro _ _ ⟨rfl, rfl⟩
      try simp only [hs]
      refine bX10_away_24   (fun c8 => ?_) (fun c8 => ?_)
      · skip
        try simp only [b2i_z, Classical.not_not, okP, okD, okSet, hs] at c8
        have hc1 : okD s v ∧ (0 ≤ n ∧ n ≤ 99) ∧ 0 ≤ wh ∧ wh ≤ 1 := ⟨by assumption, by assumption, by assumption⟩
        obtain ⟨e, he, rfl⟩ := (in_n (n := nd) (by omega)).mp (by rw [← h5]; assumption)
        have hv : nnat (nI e) = e := nnat_nI (by omega)
        obtain ⟨j, hj, rfl⟩ := (in_c (x := n) (n := 99) rfl (by decide)).mp (by assumption)
        refine bX10_away_33   (qX10_ofDoing (w := 2) (i := 34 + 3 * e) hs rfl rfl rfl (by omega)) ?_
        rintro _ _ ⟨rfl, rfl⟩
        try simp only [hs]
        refine bX10_away_39   ?_
        obtain ⟨w, hw, hwe⟩ := (hI.2.1.2.2 e he).2.2
        rw [hwe]
        have key : ∀ (n k : Nat) (im1 : XI), w + 1 < k + n → k ≤ w + 1 → im1 1 = s → mkL im im1 → V mX10_away (d + 7) (0, 0) 47 [some (.ref 0), some (.int (nI e)), some (.int (nI j)), some (.int wh), some (.int (nI w)), some (.int (awayN (s (34 + 3 * e)) (fun g => done0 s e (s (34 + 3 * e) &&& (g ^^^ (-1))) j) k)), some (.int (nI k)), none] [] SM im1 Q := by
          intro n
          induction n with
          | zero => intro k im1 hn1 hn2; omega
          | succ n ih =>
            intro k im1 hn1 hn2 hs1 hm1
            refine bX10_away_47   (fun c1 => ?_) (fun c1 => ?_)
            · skip
              have hE : w < k := (nI_ltI (by omega) (by omega)).mp c1
              refine bX10_away_121   (fun c2 => ?_) (fun c2 => ?_)
              · skip
                refine bX10_away_135   (fun c3 => ?_) (fun c3 => ?_)
                · skip
                  refine bX10_away_147   ?_
                  refine bX10_away_149   ?_
                  have : k = w + 1 := by omega
                  subst this
                  refine hQ _ _ ?_
                  unfold opAway
                  rw [if_neg (not_not_intro hc1), nnat_nI (by omega), nnat_nI (by omega)]
                  have hv0 : (awayN (s (34 + 3 * e)) (fun g => done0 s e (s (34 + 3 * e) &&& (g ^^^ (-1))) j) (w + 1)) = away0 s e j := by unfold away0; rw [hwe, nnat_nI (by omega)]
                  rw [← hv0, if_neg (by assumption)]
                  first | rw [if_pos (by assumption)] | rw [if_neg (by assumption)]
                  exact Pm.okL rfl hs1 hm1
                · skip
                  refine bX10_away_139   pX10_manyIn ?_
                  rintro _ _ ⟨rfl, rfl⟩
                  refine bX10_away_144   ?_
                  refine bX10_away_149   ?_
                  have : k = w + 1 := by omega
                  subst this
                  refine hQ _ _ ?_
                  unfold opAway
                  rw [if_neg (not_not_intro hc1), nnat_nI (by omega), nnat_nI (by omega)]
                  have hv0 : (awayN (s (34 + 3 * e)) (fun g => done0 s e (s (34 + 3 * e) &&& (g ^^^ (-1))) j) (w + 1)) = away0 s e j := by unfold away0; rw [hwe, nnat_nI (by omega)]
                  rw [← hv0, if_neg (by assumption)]
                  first | rw [if_pos (by assumption)] | rw [if_neg (by assumption)]
                  exact Pm.okL rfl hs1 hm1
              · skip
                refine bX10_away_127   (pX10_error (k := 2) rfl (by decide)) ?_
                rintro _ _ ⟨rfl, rfl⟩
                refine bX10_away_132   ?_
                refine bX10_away_149   ?_
                have : k = w + 1 := by omega
                subst this
                refine hQ _ _ ?_
                unfold opAway
                rw [if_neg (not_not_intro hc1), nnat_nI (by omega), nnat_nI (by omega)]
                have hv0 : (awayN (s (34 + 3 * e)) (fun g => done0 s e (s (34 + 3 * e) &&& (g ^^^ (-1))) j) (w + 1)) = away0 s e j := by unfold away0; rw [hwe, nnat_nI (by omega)]
                rw [if_pos (by rw [← hv0]; assumption)]
                exact Pm.erL rfl hs1 hm1 (by decide)
            · skip
              have hB : k ≤ w := Nat.not_lt.mp (fun h => c1 ((nI_ltI (by omega) (by omega)).mpr h))
              have hN : (awayN (s (34 + 3 * e)) (fun g => done0 s e (s (34 + 3 * e) &&& (g ^^^ (-1))) j) (k + 1)) = if ((nI k &&& (s (34 + 3 * e) ^^^ (-1))) = 0 ∧ ((awayN (s (34 + 3 * e)) (fun g => done0 s e (s (34 + 3 * e) &&& (g ^^^ (-1))) j) k) = -1 ∨ many0 (nI k) 6 < many0 (awayN (s (34 + 3 * e)) (fun g => done0 s e (s (34 + 3 * e) &&& (g ^^^ (-1))) j) k) 6)) ∧ ¬ (fun g => done0 s e (s (34 + 3 * e) &&& (g ^^^ (-1))) j) (nI k) = -1 then nI k else (awayN (s (34 + 3 * e)) (fun g => done0 s e (s (34 + 3 * e) &&& (g ^^^ (-1))) j) k) := rfl
              refine bX10_away_54   (fun c6 => ?_) (fun c6 => ?_)
              · skip
                have hA : ¬ ((nI k &&& (s (34 + 3 * e) ^^^ (-1))) = 0 ∧ ((awayN (s (34 + 3 * e)) (fun g => done0 s e (s (34 + 3 * e) &&& (g ^^^ (-1))) j) k) = -1 ∨ many0 (nI k) 6 < many0 (awayN (s (34 + 3 * e)) (fun g => done0 s e (s (34 + 3 * e) &&& (g ^^^ (-1))) j) k) 6)) := fun h => c6 (by rw [← hwe]; exact h.1)
                refine bX10_away_87 ?_
                refine bX10_away_88 (fun _ => ?_) (fun c => absurd rfl c)
                refine bX10_away_111 ?_
                refine bX10_away_113 ?_
                have hx := ih (k + 1) _ (by omega) (by omega) hs1 hm1
                rw [hN, if_neg (fun h => hA h.1)] at hx
                rw [nI_1]
                exact hx
              · skip
                have hA := c6
                rw [← hwe] at hA
                refine bX10_away_64   (fun c7 => ?_) (fun c7 => ?_)
                · skip
                  have hB : (awayN (s (34 + 3 * e)) (fun g => done0 s e (s (34 + 3 * e) &&& (g ^^^ (-1))) j) k) = -1 ∨ many0 (nI k) 6 < many0 (awayN (s (34 + 3 * e)) (fun g => done0 s e (s (34 + 3 * e) &&& (g ^^^ (-1))) j) k) 6 := Or.inl c7
                  refine bX10_away_83 ?_
                  refine bX10_away_88 (fun c => absurd c (by decide)) (fun _ => ?_)
                  refine bX10_away_95 (pX10_isDoneWithout hs1 hI he (by omega)) ?_
                  rintro _ imx ⟨rfl, hsx, hmx⟩
                  refine bX10_away_103 (fun c => ?_) (fun c => ?_)
                  · rw [b2i_z, Classical.not_not] at c
                    refine bX10_away_111 ?_
                    refine bX10_away_113 ?_
                    have hx := ih (k + 1) _ (by omega) (by omega) hsx (hm1.tr hmx)
                    rw [hN, if_neg (fun h => h.2 c)] at hx
                    rw [nI_1]
                    exact hx
                  · rw [b2i_z, Classical.not_not] at c
                    refine bX10_away_106 ?_
                    refine bX10_away_113 ?_
                    have hx := ih (k + 1) _ (by omega) (by omega) hsx (hm1.tr hmx)
                    rw [hN, if_pos ⟨⟨hA, hB⟩, c⟩] at hx
                    rw [nI_1]
                    exact hx
                · skip
                  have hB := c7
                  refine bX10_away_70   pX10_manyIn ?_
                  rintro _ _ ⟨rfl, rfl⟩
                  refine bX10_away_75   pX10_manyIn ?_
                  rintro _ _ ⟨rfl, rfl⟩
                  refine bX10_away_80   (fun c10 => ?_) (fun c10 => ?_)
                  · skip
                    have hA : ¬ ((nI k &&& (s (34 + 3 * e) ^^^ (-1))) = 0 ∧ ((awayN (s (34 + 3 * e)) (fun g => done0 s e (s (34 + 3 * e) &&& (g ^^^ (-1))) j) k) = -1 ∨ many0 (nI k) 6 < many0 (awayN (s (34 + 3 * e)) (fun g => done0 s e (s (34 + 3 * e) &&& (g ^^^ (-1))) j) k) 6)) := fun h => h.2.elim hB (fun h2 => Int32.not_lt.mpr c10 h2)
                    refine bX10_away_87 ?_
                    refine bX10_away_88 (fun _ => ?_) (fun c => absurd rfl c)
                    refine bX10_away_111 ?_
                    refine bX10_away_113 ?_
                    have hx := ih (k + 1) _ (by omega) (by omega) hs1 hm1
                    rw [hN, if_neg (fun h => hA h.1)] at hx
                    rw [nI_1]
                    exact hx
                  · skip
                    have hB : (awayN (s (34 + 3 * e)) (fun g => done0 s e (s (34 + 3 * e) &&& (g ^^^ (-1))) j) k) = -1 ∨ many0 (nI k) 6 < many0 (awayN (s (34 + 3 * e)) (fun g => done0 s e (s (34 + 3 * e) &&& (g ^^^ (-1))) j) k) 6 := Or.inr (Int32.not_le.mp c10)
                    refine bX10_away_83 ?_
                    refine bX10_away_88 (fun c => absurd c (by decide)) (fun _ => ?_)
                    refine bX10_away_95 (pX10_isDoneWithout hs1 hI he (by omega)) ?_
                    rintro _ imx ⟨rfl, hsx, hmx⟩
                    refine bX10_away_103 (fun c => ?_) (fun c => ?_)
                    · rw [b2i_z, Classical.not_not] at c
                      refine bX10_away_111 ?_
                      refine bX10_away_113 ?_
                      have hx := ih (k + 1) _ (by omega) (by omega) hsx (hm1.tr hmx)
                      rw [hN, if_neg (fun h => h.2 c)] at hx
                      rw [nI_1]
                      exact hx
                    · rw [b2i_z, Classical.not_not] at c
                      refine bX10_away_106 ?_
                      refine bX10_away_113 ?_
                      have hx := ih (k + 1) _ (by omega) (by omega) hsx (hm1.tr hmx)
                      rw [hN, if_pos ⟨⟨hA, hB⟩, c⟩] at hx
                      rw [nI_1]
                      exact hx
        exact key (w + 2) 0 im (by omega) (by omega) hs mkL.rf
      · skip
        try simp only [b2i_z, Classical.not_not, okP, okD, okSet, hs] at c8
        refine bX10_away_27   (pX10_error (k := 1) rfl (by decide)) ?_
        rintro _ _ ⟨rfl, rfl⟩
        try simp only [hs]
        refine bX10_away_32   ?_
        refine hQ _ _ ?_
        first
          | (rw [show opAway s v n wh = rE _ s from by unfold opAway; rw [if_pos (by grind)]]; exact Pm.er rfl hs mk.rf (by decide))
          | (rw [show opAway s v n wh = rE _ s from by unfold opAway; rw [if_neg (by grind), if_pos (by grind)]]; exact Pm.er rfl hs mk.rf (by decide))

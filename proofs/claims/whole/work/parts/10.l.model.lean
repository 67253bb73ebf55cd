theorem pX10_phaseFor {d : Nat} {im : XI} {s : Nat → Int32} {np nd : Nat} {v u wh : Int32} (hs : im 1 = s) (hI : Iv s np nd) : SpI mX10_phaseFor (d + 6) [.ref 0, .int v, .int u, .int wh] SM im (fun x im' => Pm im (opPhaseFor s v u wh) x im') := by
  refine SpI.of [some (.ref 0), some (.int v), some (.int u), some (.int wh), none, none, none, none, none] rfl (by decide) rfl (fun Q hQ => ?_)
  have h4 := hI.1.2.1
  have hnp := hI.1.1
  have h5 := hI.2.1.2.1
  have hnd := hI.2.1.1
  refine bX10_phaseFor_0   (qX10_isPerson hs) ?_
  rintro _ _ ⟨rfl, rfl⟩
  try simp only [hs]
  refine bX10_phaseFor_5   (fun c2 => ?_) (fun c2 => ?_)
  · skip
    try simp only [b2i_z, Classical.not_not, okP, okD, okSet, hs] at c2
    refine bX10_phaseFor_25   (pX10_error (k := 1) rfl (by decide)) ?_
    rintro _ _ ⟨rfl, rfl⟩
    try simp only [hs]
    refine bX10_phaseFor_30   ?_
    refine hQ _ _ ?_
    first
      | (rw [show opPhaseFor s v u wh = rE _ s from by unfold opPhaseFor; rw [if_pos (by grind)]]; exact Pm.er rfl hs mk.rf (by decide))
      | (rw [show opPhaseFor s v u wh = rE _ s from by unfold opPhaseFor; rw [if_neg (by grind), if_pos (by grind)]]; exact Pm.er rfl hs mk.rf (by decide))
  · skip
    try simp only [b2i_z, Classical.not_not, okP, okD, okSet, hs] at c2
    refine bX10_phaseFor_8   (qX10_isDoing hs) ?_
    rintro _ _ ⟨rfl, rfl⟩
    try simp only [hs]
    refine bX10_phaseFor_13   (fun c5 => ?_) (fun c5 => ?_)
    · skip
      try simp only [b2i_z, Classical.not_not, okP, okD, okSet, hs] at c5
      refine bX10_phaseFor_25   (pX10_error (k := 1) rfl (by decide)) ?_
      rintro _ _ ⟨rfl, rfl⟩
      try simp only [hs]
      refine bX10_phaseFor_30   ?_
      refine hQ _ _ ?_
      first
        | (rw [show opPhaseFor s v u wh = rE _ s from by unfold opPhaseFor; rw [if_pos (by grind)]]; exact Pm.er rfl hs mk.rf (by decide))
        | (rw [show opPhaseFor s v u wh = rE _ s from by unfold opPhaseFor; rw [if_neg (by grind), if_pos (by grind)]]; exact Pm.er rfl hs mk.rf (by decide))
    · skip
      try simp only [b2i_z, Classical.not_not, okP, okD, okSet, hs] at c5
      refine bX10_phaseFor_16   pX10_in ?_
      rintro _ _ ⟨rfl, rfl⟩
      try simp only [hs]
      refine bX10_phaseFor_22   (fun c8 => ?_) (fun c8 => ?_)
      · skip
        try simp only [b2i_z, Classical.not_not, okP, okD, okSet, hs] at c8
        have hc1 : okP s v ∧ okD s u ∧ 0 ≤ wh ∧ wh ≤ 1 := ⟨by assumption, by assumption, by assumption⟩
        obtain ⟨p, hp, rfl⟩ := (in_n (n := np) (by omega)).mp (by rw [← h4]; assumption)
        have hv : nnat (nI p) = p := nnat_nI (by omega)
        obtain ⟨e, he, rfl⟩ := (in_n (n := nd) (by omega)).mp (by rw [← h5]; assumption)
        have hv2 : nnat (nI e) = e := nnat_nI (by omega)
        refine bX10_phaseFor_31   ?_
        obtain ⟨-, b, hb0, hb1, hb⟩ := hI.1.2.2 p hp
        have key : ∀ (n k : Nat) (im1 : XI), b < k + n → k ≤ b → im1 1 = s → mkL im im1 → V mX10_phaseFor (d + 6) (0, 0) 41 [some (.ref 0), some (.int (nI p)), some (.int (nI e)), some (.int wh), some (.int (phN (fun f => done0 (upd s (11 + 4 * p) (nI f)) e (s (34 + 3 * e)) 99) k).1), some (.int (phN (fun f => done0 (upd s (11 + 4 * p) (nI f)) e (s (34 + 3 * e)) 99) k).2), some (.int (nI k)), none, none] [] SM im1 Q := by
          intro n
          induction n with
          | zero => intro k im1 hn1 hn2; omega
          | succ n ih =>
            intro k im1 hn1 hn2 hs1 hm1
            refine bX10_phaseFor_41 (qX10_its (w := 2) (i := 10 + 4 * p) hs1 rfl rfl rfl (by omega)) ?_
            rintro _ _ ⟨rfl, rfl⟩
            rw [hb]
            refine bX10_phaseFor_49 (fun c => ?_) (fun c => ?_)
            · have hE : b ≤ k := ge_i (by omega) (by omega) c
              have : k = b := by omega
              subst this
              have hv0 : (phN (fun f => done0 (upd s (11 + 4 * p) (nI f)) e (s (34 + 3 * e)) 99) k) = phase0 s p e := by unfold phase0; rw [hb, nnat_nI (by omega)]
              rw [hv0]
              refine bX10_phaseFor_127 (fun c => ?_) (fun c => ?_)
              · refine bX10_phaseFor_141 (fun c2 => ?_) (fun c2 => ?_)
                · refine bX10_phaseFor_150 ?_
                  refine bX10_phaseFor_152 ?_
                  refine hQ _ _ ?_
                  unfold opPhaseFor
                  rw [if_neg (not_not_intro hc1), hv, hv2, if_neg c, if_neg c2]
                  exact Pm.okL rfl hs1 hm1
                · refine bX10_phaseFor_145 ?_
                  refine bX10_phaseFor_152 ?_
                  refine hQ _ _ ?_
                  unfold opPhaseFor
                  rw [if_neg (not_not_intro hc1), hv, hv2, if_neg c, if_pos c2]
                  exact Pm.okL rfl hs1 hm1
              · refine bX10_phaseFor_133 (pX10_error (k := 2) rfl (by decide)) ?_
                rintro _ _ ⟨rfl, rfl⟩
                refine bX10_phaseFor_138 ?_
                refine bX10_phaseFor_152 ?_
                refine hQ _ _ ?_
                unfold opPhaseFor
                rw [if_neg (not_not_intro hc1), hv, hv2, if_pos c]
                exact Pm.erL rfl hs1 hm1 (by decide)
            · skip
              have hB : k < b := lt_i (by omega) (by omega) c
              have hN : (phN (fun f => done0 (upd s (11 + 4 * p) (nI f)) e (s (34 + 3 * e)) 99) (k + 1)) = if ¬ (fun f => done0 (upd s (11 + 4 * p) (nI f)) e (s (34 + 3 * e)) 99) k = -1 ∧ (fun f => done0 (upd s (11 + 4 * p) (nI f)) e (s (34 + 3 * e)) 99) k < (phN (fun f => done0 (upd s (11 + 4 * p) (nI f)) e (s (34 + 3 * e)) 99) k).2 then (nI k, (fun f => done0 (upd s (11 + 4 * p) (nI f)) e (s (34 + 3 * e)) 99) k) else (phN (fun f => done0 (upd s (11 + 4 * p) (nI f)) e (s (34 + 3 * e)) 99) k) := rfl
              refine bX10_phaseFor_52 pX10_layDown ?_
              rintro _ rfl
              have hs0 : (ovl im1 3 1 50) 1 = s := by rw [lay_1]; exact hs1
              refine bX10_phaseFor_56 (qX10_lays1 (p := p) (w := 3) (i := 11 + 4 * p) hs0 rfl rfl rfl (by omega)) ?_
              rintro im3 ⟨hs3, hm3⟩
              have hI3 : Iv (upd s (11 + 4 * p) (nI k)) np nd := Iv_free hI (Or.inr (Or.inr (Or.inl ⟨p, by omega, Or.inr rfl⟩)))
              refine bX10_phaseFor_64 (pX10_doneBy (m := 99) (s := s) hs3 hI3 he rfl (by decide) (fun q hq => lay_3 hs1 hm3 hq) (fun q hq => upd_ne (by omega))) ?_
              rintro _ im4 ⟨rfl, hs4, hm4'⟩
              rw [upd_ne (j := 34 + 3 * e) (by omega)]
              have hm4 : mkL im im4 := (hm1.tr (mkL_lay im1)).tr (hm3.tr hm4').L
              refine bX10_phaseFor_71 (fun c2 => ?_) (fun c2 => ?_)
              · refine bX10_phaseFor_90 ?_
                refine bX10_phaseFor_91 (fun _ => ?_) (fun c => absurd rfl c)
                refine bX10_phaseFor_103 ?_
                refine bX10_phaseFor_105 (fun _ => ?_) (fun c => absurd rfl c)
                refine bX10_phaseFor_117 ?_
                refine bX10_phaseFor_119 ?_
                have hx := ih (k + 1) _ (by omega) (by omega) hs4 hm4
                rw [hN, if_neg (fun h => h.1 c2)] at hx
                rw [nI_1]
                exact hx
              · refine bX10_phaseFor_79 (fun c3 => ?_) (fun c3 => ?_)
                · refine bX10_phaseFor_90 ?_
                  refine bX10_phaseFor_91 (fun _ => ?_) (fun c => absurd rfl c)
                  refine bX10_phaseFor_103 ?_
                  refine bX10_phaseFor_105 (fun _ => ?_) (fun c => absurd rfl c)
                  refine bX10_phaseFor_117 ?_
                  refine bX10_phaseFor_119 ?_
                  have hx := ih (k + 1) _ (by omega) (by omega) hs4 hm4
                  rw [hN, if_neg (fun h => Int32.not_lt.mpr c3 h.2)] at hx
                  rw [nI_1]
                  exact hx
                · refine bX10_phaseFor_86 ?_
                  refine bX10_phaseFor_91 (fun c => absurd c (by decide)) (fun _ => ?_)
                  refine bX10_phaseFor_98 ?_
                  refine bX10_phaseFor_105 (fun c => absurd c (by decide)) (fun _ => ?_)
                  refine bX10_phaseFor_112 ?_
                  refine bX10_phaseFor_119 ?_
                  have hx := ih (k + 1) _ (by omega) (by omega) hs4 hm4
                  rw [hN, if_pos ⟨c2, Int32.not_le.mp c3⟩] at hx
                  rw [nI_1]
                  exact hx
        exact key (b + 1) 0 im (by omega) (by omega) hs mkL.rf
      · skip
        try simp only [b2i_z, Classical.not_not, okP, okD, okSet, hs] at c8
        refine bX10_phaseFor_25   (pX10_error (k := 1) rfl (by decide)) ?_
        rintro _ _ ⟨rfl, rfl⟩
        try simp only [hs]
        refine bX10_phaseFor_30   ?_
        refine hQ _ _ ?_
        first
          | (rw [show opPhaseFor s v u wh = rE _ s from by unfold opPhaseFor; rw [if_pos (by grind)]]; exact Pm.er rfl hs mk.rf (by decide))
          | (rw [show opPhaseFor s v u wh = rE _ s from by unfold opPhaseFor; rw [if_neg (by grind), if_pos (by grind)]]; exact Pm.er rfl hs mk.rf (by decide))
theorem pX10_divisor {d : Nat} {im : XI} {S : XS} {a b : Nat} (ha : a < 2 ^ 31) (hb : b < 2 ^ 31) : SpI mX10_divisor d [.int (nI a), .int (nI b)] S im (fun x im' => x = gcd0 (nI a) (nI b) ∧ im = im') := by
  refine SpI.of [some (.int (nI a)), some (.int (nI b)), none, none, none] rfl (by decide) rfl (fun Q hQ => ?_)
  have key : ∀ (n x y : Nat), y < n → x < 2 ^ 31 → y < 2 ^ 31 → Nat.gcd x y = Nat.gcd a b → V mX10_divisor d (0, 0) 4 [some (.int (nI a)), some (.int (nI b)), some (.int (nI x)), some (.int (nI y)), none] [] S im Q := by
    intro n
    induction n with
    | zero => intro x y h; omega
    | succ n ih =>
      intro x y hn hx hy hg
      refine bX10_divisor_4 (fun c => ?_) (fun c => ?_)
      · have h0 : y = 0 := by
          rcases Nat.eq_zero_or_pos y with h | h
          · exact h
          · exact absurd c (nI_ne0 h hy)
        subst h0
        refine bX10_divisor_21 ?_
        refine hQ _ _ ⟨?_, rfl⟩
        unfold gcd0
        rw [nnat_nI ha, nnat_nI hb, ← hg, Nat.gcd_zero_right]
      · have h0 : 0 < y := by
          rcases Nat.eq_zero_or_pos y with h | h
          · subst h; exact absurd rfl c
          · exact h
        have hlt : x % y < y := Nat.mod_lt _ h0
        refine bX10_divisor_8 c ?_
        rw [gcd_step hx h0 hy]
        refine ih y (x % y) (by omega) hy (by omega) ?_
        rw [← hg, Nat.gcd_comm x y, Nat.gcd_rec y x, Nat.gcd_comm]
  refine bX10_divisor_0 ?_
  exact key (b + 1) a b (by omega) ha hb rfl
theorem pX10_odds {d : Nat} {im : XI} {s : Nat → Int32} {np nd : Nat} {set n wh : Int32} (hs : im 1 = s) (hI : Iv s np nd) : SpI mX10_odds (d + 6) [.ref 0, .int set, .int n, .int wh] SM im (fun x im' => Pm im (opOdds s set n wh) x im') := by
  refine SpI.of [some (.ref 0), some (.int set), some (.int n), some (.int wh), none, none] rfl (by decide) rfl (fun Q hQ => ?_)
  have h4 := hI.1.2.1
  have hnp := hI.1.1
  have h5 := hI.2.1.2.1
  have hnd := hI.2.1.1
  refine bX10_odds_0   (qX10_isSet hs) ?_
  rintro _ _ ⟨rfl, rfl⟩
  try simp only [hs]
  refine bX10_odds_5   (fun c2 => ?_) (fun c2 => ?_)
  · skip
    try simp only [b2i_z, Classical.not_not, okP, okD, okSet, hs] at c2
    refine bX10_odds_27   (pX10_error (k := 1) rfl (by decide)) ?_
    rintro _ _ ⟨rfl, rfl⟩
    try simp only [hs]
    refine bX10_odds_32   ?_
    refine hQ _ _ ?_
    unfold opOdds
    rw [if_pos (by grind)]
    exact Pm.er rfl hs mk.rf (by decide)
  · skip
    try simp only [b2i_z, Classical.not_not, okP, okD, okSet, hs] at c2
    refine bX10_odds_8   pX10_in ?_
    rintro _ _ ⟨rfl, rfl⟩
    try simp only [hs]
    refine bX10_odds_15   (fun c5 => ?_) (fun c5 => ?_)
    · skip
      try simp only [b2i_z, Classical.not_not, okP, okD, okSet, hs] at c5
      refine bX10_odds_27   (pX10_error (k := 1) rfl (by decide)) ?_
      rintro _ _ ⟨rfl, rfl⟩
      try simp only [hs]
      refine bX10_odds_32   ?_
      refine hQ _ _ ?_
      unfold opOdds
      rw [if_pos (by grind)]
      exact Pm.er rfl hs mk.rf (by decide)
    · skip
      try simp only [b2i_z, Classical.not_not, okP, okD, okSet, hs] at c5
      refine bX10_odds_18   pX10_in ?_
      rintro _ _ ⟨rfl, rfl⟩
      try simp only [hs]
      refine bX10_odds_24   (fun c8 => ?_) (fun c8 => ?_)
      · skip
        try simp only [b2i_z, Classical.not_not, okP, okD, okSet, hs] at c8
        have hc1 : okSet s set ∧ (1 ≤ n ∧ n ≤ 99) ∧ 0 ≤ wh ∧ wh ≤ 1 := ⟨by assumption, by assumption, by assumption⟩
        obtain ⟨j, hj0, hj, rfl⟩ := (in_ab (x := n) (a := 1) (n := 99) rfl rfl (by decide) (by decide)).mp (by assumption)
        refine bX10_odds_33   (pX10_momentsOf hs hI rfl (by omega)) ?_
        rintro _ im9 ⟨rfl, hs9, hm9⟩
        try simp only [hs9]
        obtain ⟨q, hq, hqe⟩ := moms0_nat (s := s) (set := set) j
        rw [hqe]
        refine bX10_odds_39   (pX10_divisor (a := q) (b := j) (by omega) (by omega)) ?_
        rintro _ _ ⟨rfl, rfl⟩
        try simp only [hs9]
        have hgz : ¬ gcd0 (nI q) (nI j) = 0 := by
          unfold gcd0
          have := Nat.gcd_le_right (m := nnat (nI q)) (n := nnat (nI j)) (by rw [nnat_nI (by omega)]; omega)
          rw [nnat_nI (n := j) (by omega)] at *
          exact nI_ne0 (Nat.gcd_pos_of_pos_right _ (by omega)) (by omega)
        refine bX10_odds_47   (fun c11 => ?_) (fun c11 => ?_)
        · skip
          try simp only [b2i_z, Classical.not_not, okP, okD, okSet, hs9] at c11
          refine bX10_odds_61  (by first | assumption | rfl | omega | decide) ?_
          refine bX10_odds_65   ?_
          refine hQ _ _ ?_
          unfold opOdds
          rw [if_neg (not_not_intro hc1), nnat_nI (by omega), hqe]
          first | rw [if_pos (by assumption)] | rw [if_neg (by assumption)]
          exact Pm.ok rfl hs9 ((mk.rf).tr hm9)
        · skip
          try simp only [b2i_z, Classical.not_not, okP, okD, okSet, hs9] at c11
          refine bX10_odds_53  (by first | assumption | rfl | omega | decide) ?_
          refine bX10_odds_65   ?_
          refine hQ _ _ ?_
          unfold opOdds
          rw [if_neg (not_not_intro hc1), nnat_nI (by omega), hqe]
          first | rw [if_pos (by assumption)] | rw [if_neg (by assumption)]
          exact Pm.ok rfl hs9 ((mk.rf).tr hm9)
      · skip
        try simp only [b2i_z, Classical.not_not, okP, okD, okSet, hs] at c8
        refine bX10_odds_27   (pX10_error (k := 1) rfl (by decide)) ?_
        rintro _ _ ⟨rfl, rfl⟩
        try simp only [hs]
        refine bX10_odds_32   ?_
        refine hQ _ _ ?_
        unfold opOdds
        rw [if_pos (by grind)]
        exact Pm.er rfl hs mk.rf (by decide)

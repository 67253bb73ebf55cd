theorem pX10_doneBy {d : Nat} {im : XI} {s s1 : Nat → Int32} {np nd e m : Nat} {mo : Int32} (hs : im 1 = s1) (hI : Iv s1 np nd) (he : e < nd) (hmo : mo = nI m) (hm9 : m ≤ 1000) (h3 : ∀ q, q < 50 → im 3 q = s q) (h50 : ∀ q, 50 ≤ q → s1 q = s q) : SpI mX10_doneBy (d + 5) [.ref 0, .int (nI e), .int mo] SM im (fun x im' => x = done0 s1 e (s1 (34 + 3 * e)) m ∧ im' 1 = s ∧ mk im im') := by
  refine SpI.of [some (.ref 0), some (.int (nI e)), some (.int mo), none, none] rfl (by decide) rfl (fun Q hQ => ?_)
  subst hmo
  have hnd := hI.2.1.1
  have key : ∀ (n k : Nat) (im1 : XI), m + 1 < k + n → k ≤ m + 1 → im1 1 = rowK s1 e k → mk im im1 → firstP (leftN s1 e (s1 (34 + 3 * e)) (s1 0)) 0 (m + 1 - k) k = done0 s1 e (s1 (34 + 3 * e)) m → V mX10_doneBy (d + 5) (0, 0) 2 [some (.ref 0), some (.int (nI e)), some (.int (nI m)), some (.int (nI k)), none] [] SM im1 Q := by
    intro n
    induction n with
    | zero => intro k im1 hn1 hn2; omega
    | succ n ih =>
      intro k im1 hn1 hn2 hs1 hm1 hf
      refine bX10_doneBy_2   (fun c1 => ?_) (fun c1 => ?_)
      · skip
        have hE : m < k := (nI_ltI (by omega) (by omega)).mp c1
        have hk : k = m + 1 := by omega
        have hval : done0 s1 e (s1 (34 + 3 * e)) m = -1 := by rw [← hf, hk, Nat.sub_self]; rfl
        refine bX10_doneBy_43   pX10_layBack ?_
        rintro _ rfl
        refine bX10_doneBy_47   (fun c3 => ?_) (fun c3 => ?_)
        · skip
          have hkm := ge_i (by omega) (by omega) c3
          refine bX10_doneBy_56   ?_
          refine bX10_doneBy_57   ?_
          refine hQ _ _ ⟨by first | exact hval.symm | omega, back_s (fun q hq => by rw [hm1 3 q (by simp [mgb])]; exact h3 q hq) hs1 (fun q hq => (rowK_50 hq (by omega)).trans (h50 q hq)), mk_ovl hm1⟩
        · skip
          have hkm := lt_i (by omega) (by omega) c3
          refine bX10_doneBy_52   ?_
          refine bX10_doneBy_57   ?_
          refine hQ _ _ ⟨by first | exact hval.symm | omega, back_s (fun q hq => by rw [hm1 3 q (by simp [mgb])]; exact h3 q hq) hs1 (fun q hq => (rowK_50 hq (by omega)).trans (h50 q hq)), mk_ovl hm1⟩
      · skip
        have hB : k ≤ m := Nat.not_lt.mp (fun h => c1 ((nI_ltI (by omega) (by omega)).mpr h))
        have hIk := rowK_Iv hI he k
        obtain ⟨f, hff⟩ : ∃ f, m + 1 - k = f + 1 := ⟨m - k, by omega⟩
        rw [hff] at hf
        obtain ⟨q, hq, hqe⟩ := leftN_nat (w := s1 (34 + 3 * e)) (t := s1 0) hI he k
        refine bX10_doneBy_7   (qX10_ofDoing (w := 1) (i := 33 + 3 * e) hs1 rfl rfl rfl (by omega)) ?_
        rintro _ _ ⟨rfl, rfl⟩
        refine bX10_doneBy_13   (fun c5 => ?_) (fun c5 => ?_)
        · skip
          rw [rowK_l, hqe] at c5
          have hq0 : q = 0 := by have := ge_i (b := 0) (by omega) (by omega) c5; omega
          have hval : done0 s1 e (s1 (34 + 3 * e)) m = nI k := by rw [← hf]; unfold firstP; rw [if_pos (by rw [hqe, hq0]; rfl)]
          refine bX10_doneBy_43   pX10_layBack ?_
          rintro _ rfl
          refine bX10_doneBy_47   (fun c7 => ?_) (fun c7 => ?_)
          · skip
            have hkm := ge_i (by omega) (by omega) c7
            refine bX10_doneBy_56   ?_
            refine bX10_doneBy_57   ?_
            refine hQ _ _ ⟨by first | exact hval.symm | omega, back_s (fun q hq => by rw [hm1 3 q (by simp [mgb])]; exact h3 q hq) hs1 (fun q hq => (rowK_50 hq (by omega)).trans (h50 q hq)), mk_ovl hm1⟩
          · skip
            have hkm := lt_i (by omega) (by omega) c7
            refine bX10_doneBy_52   ?_
            refine bX10_doneBy_57   ?_
            refine hQ _ _ ⟨by first | exact hval.symm | omega, back_s (fun q hq => by rw [hm1 3 q (by simp [mgb])]; exact h3 q hq) hs1 (fun q hq => (rowK_50 hq (by omega)).trans (h50 q hq)), mk_ovl hm1⟩
        · skip
          rw [rowK_l, hqe] at c5
          have hne : ¬ nI q = 0 := fun h => c5 (by rw [h]; decide)
          refine bX10_doneBy_16   (pX10_shutNow hs1 hIk) ?_
          rintro _ im8 ⟨rfl, hs8, hm8⟩
          refine bX10_doneBy_22  (by first | rfl | assumption) (pX10_getsOn hs8 hIk he) ?_
          rintro _ im9 ⟨rfl, hs9, hm9⟩
          refine bX10_doneBy_25   ?_
          rw [nI_1]
          refine ih (k + 1) _ (by omega) (by omega) ?_ ((((((hm1).tr hm8)).tr hm9)).up (mg1 _)) ?_
          · rw [xup_s, hs9, rowK_s hI he]
          · rw [← hf]; conv => rhs; unfold firstP
            rw [hqe, if_neg hne, show m + 1 - (k + 1) = f by omega]
  refine bX10_doneBy_0 ?_
  exact key (m + 2) 0 im (by omega) (by omega) (by rw [hs, rowK_0]) mk.rf rfl
theorem pX10_soonest {d : Nat} {im : XI} {s : Nat → Int32} {np nd : Nat} {v : Int32} (hs : im 1 = s) (hI : Iv s np nd) : SpI mX10_soonest (d + 6) [.ref 0, .int v] SM im (fun x im' => Pm im (opSoonest s v) x im') := by
  refine SpI.of [some (.ref 0), some (.int v), none] rfl (by decide) rfl (fun Q hQ => ?_)
  have h4 := hI.1.2.1
  have hnp := hI.1.1
  have h5 := hI.2.1.2.1
  have hnd := hI.2.1.1
  refine bX10_soonest_0   (qX10_isDoing hs) ?_
  rintro _ _ ⟨rfl, rfl⟩
  try simp only [hs]
  refine bX10_soonest_5   (fun c2 => ?_) (fun c2 => ?_)
  · skip
    try simp only [b2i_z, Classical.not_not, okP, okD, okSet, hs] at c2
    obtain ⟨e, he, rfl⟩ := (in_n (n := nd) (by omega)).mp (by rw [← h5]; assumption)
    have hv : nnat (nI e) = e := nnat_nI (by omega)
    refine bX10_soonest_14   pX10_layDown ?_
    rintro _ rfl
    try simp only [hs]
    refine bX10_soonest_18   (pX10_doneBy (m := 200) (s := s) (by rw [lay_1]; exact hs) hI he rfl (by decide) (fun q hq => lay_3 hs mk.rf hq) (fun q _ => rfl)) ?_
    rintro _ im4 ⟨rfl, hs4, hm4⟩
    try simp only [hs4]
    refine bX10_soonest_26   (fun c5 => ?_) (fun c5 => ?_)
    · skip
      try simp only [b2i_z, Classical.not_not, okP, okD, okSet, hs4] at c5
      refine bX10_soonest_40   ?_
      refine bX10_soonest_41   ?_
      refine hQ _ _ ?_
      unfold opSoonest
      rw [if_neg (by grind), hv, if_neg (by assumption)]
      exact Pm.okL rfl hs4 ((mkL_lay im).tr (hm4).L)
    · skip
      try simp only [b2i_z, Classical.not_not, okP, okD, okSet, hs4] at c5
      refine bX10_soonest_32   (pX10_error (k := 2) rfl (by decide)) ?_
      rintro _ _ ⟨rfl, rfl⟩
      try simp only [hs4]
      refine bX10_soonest_37   ?_
      refine bX10_soonest_41   ?_
      refine hQ _ _ ?_
      unfold opSoonest
      rw [if_neg (by grind), hv, if_pos (by assumption)]
      exact Pm.erL rfl hs4 ((mkL_lay im).tr (hm4).L) (by decide)
  · skip
    try simp only [b2i_z, Classical.not_not, okP, okD, okSet, hs] at c2
    refine bX10_soonest_8   (pX10_error (k := 1) rfl (by decide)) ?_
    rintro _ _ ⟨rfl, rfl⟩
    try simp only [hs]
    refine bX10_soonest_13   ?_
    refine hQ _ _ ?_
    unfold opSoonest
    rw [if_pos (by grind)]
    exact Pm.er rfl hs mk.rf (by decide)
theorem pX10_isMoment {d : Nat} {im : XI} {s : Nat → Int32} {np nd : Nat} {set : Int32} (hs : im 1 = s) (hI : Iv s np nd) : SpI mX10_isMoment (d + 4) [.ref 0, .int set] SM im (fun x im' => x = mom0 s set (s 0) ∧ im' 1 = s ∧ mk im im') := by
  refine SpI.of [some (.ref 0), some (.int set), none, none] rfl (by decide) rfl (fun Q hQ => ?_)
  have h4 := hI.1.2.1
  have hnp := hI.1.1
  have key : ∀ (n k : Nat) (im1 : XI), np < k + n → k ≤ np → im1 1 = s → mk im im1 → V mX10_isMoment (d + 4) (0, 0) 4 [some (.ref 0), some (.int set), some (.int (momN s set (s 0) k)), some (.int (nI k))] [] SM im1 Q := by
    intro n
    induction n with
    | zero => intro k im1 hn1 hn2; omega
    | succ n ih =>
      intro k im1 hn1 hn2 hs1 hm1
      refine bX10_isMoment_4   (fun c1 => ?_) (fun c1 => ?_)
      · skip
        rw [hs1, h4] at c1
        have hE : np ≤ k := ge_i (by omega) (by omega) c1
        have hval : momN s set (s 0) k = mom0 s set (s 0) := by unfold mom0; rw [h4, nnat_nI (by omega), show k = np by omega]
        refine bX10_isMoment_47  (momN_01 _ _ _ _) ?_
        exact hQ _ _ ⟨hval, hs1, hm1⟩
      · skip
        rw [hs1, h4] at c1
        have hB : k < np := lt_i (by omega) (by omega) c1
        obtain ⟨-, b, hb0, hb1, hb2⟩ := hI.1.2.2 k hB
        have hbz : ¬ s (10 + 4 * k) = 0 := by rw [hb2]; exact nI_ne0 hb0 (by omega)
        have htx := hI.2.2.2.2.1
        have hmk : momN s set (s 0) (k + 1) = if momN s set (s 0) k = 0 then 0 else if ((set >>> (nI k &&& 31)) &&& 1) = 0 ∨ shutT s (s 0) k = 1 then 1 else 0 := rfl
        refine bX10_isMoment_14   (fun c2 => ?_) (fun c2 => ?_)
        · skip
          have hval : momN s set (s 0) k = mom0 s set (s 0) := by unfold mom0; rw [h4, nnat_nI (by omega), momN_z c2 hn2, c2]
          refine bX10_isMoment_47  (momN_01 _ _ _ _) ?_
          exact hQ _ _ ⟨hval, hs1, hm1⟩
        · skip
          rw [if_neg c2] at hmk
          refine bX10_isMoment_18   (fun c3 => ?_) (fun c3 => ?_)
          · skip
            rw [if_pos (Or.inl c3)] at hmk
            refine bX10_isMoment_35   ?_
            refine bX10_isMoment_40   ?_
            rw [nI_1, ← hmk]
            exact ih (k + 1) _ (by omega) (by omega) hs1 (hm1)
          · skip
            have hbit := c3
            refine bX10_isMoment_26   (pX10_shutOf hs1 (by omega) (by assumption) (by assumption)) ?_
            rintro _ im4 ⟨rfl, hs4, hm4⟩
            refine bX10_isMoment_31   (fun c5 => ?_) (fun c5 => ?_)
            · skip
              rw [if_neg (fun h => h.elim hbit c5)] at hmk
              refine bX10_isMoment_39   ?_
              refine bX10_isMoment_40   ?_
              rw [nI_1, ← hmk]
              exact ih (k + 1) _ (by omega) (by omega) hs4 (((hm1).tr hm4))
            · skip
              rw [if_pos (show _ ∨ shutT s (s 0) k = 1 from Or.inr c5)] at hmk
              refine bX10_isMoment_35   ?_
              refine bX10_isMoment_40   ?_
              rw [nI_1, ← hmk]
              exact ih (k + 1) _ (by omega) (by omega) hs4 (((hm1).tr hm4))
  refine bX10_isMoment_0 ?_
  exact key (np + 1) 0 im (by omega) (by omega) hs mk.rf
theorem pX10_momentsOf {d : Nat} {im : XI} {s : Nat → Int32} {np nd : Nat} {j : Nat} {set n : Int32} (hs : im 1 = s) (hI : Iv s np nd) (hj : n = nI j) (hj9 : j ≤ 1000) : SpI mX10_momentsOf (d + 5) [.ref 0, .int set, .int n] SM im (fun x im' => x = moms0 s set j ∧ im' 1 = s ∧ mk im im') := by
  refine SpI.of [some (.ref 0), some (.int set), some (.int n), none, none, none] rfl (by decide) rfl (fun Q hQ => ?_)
  subst hj
  have key : ∀ (n k : Nat) (im1 : XI), j < k + n → k ≤ j → im1 1 = upd s 0 (s 0 + nI k) → mk im im1 → V mX10_momentsOf (d + 5) (0, 0) 13 [some (.ref 0), some (.int set), some (.int (nI j)), some (.int (s 0)), some (.int (moms0 s set k)), some (.int (nI k))] [] SM im1 Q := by
    intro n
    induction n with
    | zero => intro k im1 hn1 hn2; omega
    | succ n ih =>
      intro k im1 hn1 hn2 hs1 hm1
      refine bX10_momentsOf_13   (fun c1 => ?_) (fun c1 => ?_)
      · skip
        have hE : j ≤ k := ge_i (a := j) (b := k) (by omega) (by omega) c1
        refine bX10_momentsOf_53   ?_
        have : k = j := by omega
        subst this
        exact hQ _ _ ⟨rfl, by rw [xup_s, hs1, upd_upd, upd_self rfl], (hm1).up (mg1 _)⟩
      · skip
        have hB : k < j := lt_i (a := j) (b := k) (by omega) (by omega) c1
        refine bX10_momentsOf_19   (pX10_isMoment hs1 (Iv_free hI (Or.inl rfl))) ?_
        rintro _ im2 ⟨rfl, hs2, hm2⟩
        rw [upd_at, mom0_0]
        refine bX10_momentsOf_26   (fun c3 => ?_) (fun c3 => ?_)
        · skip
          have hz : mom0 s set (s 0 + nI k) = 0 := c3
          refine bX10_momentsOf_33   ?_
          refine bX10_momentsOf_34   ?_
          rw [nI_1]
          have hsm : moms0 s set (k + 1) = moms0 s set k + mom0 s set (s 0 + nI k) := rfl
          rw [hz] at hsm
          rw [← hsm]
          refine ih (k + 1) _ (by omega) (by omega) ?_ ((((hm1).tr hm2)).up (mg1 _))
          rw [xup_s, hs2, upd_at, upd_upd, Int32.add_assoc, nI_1]
        · skip
          have hz : mom0 s set (s 0 + nI k) = 1 := (momN_01 _ _ _ _).resolve_left c3
          refine bX10_momentsOf_29   ?_
          refine bX10_momentsOf_34   ?_
          rw [nI_1]
          have hsm : moms0 s set (k + 1) = moms0 s set k + mom0 s set (s 0 + nI k) := rfl
          rw [hz] at hsm
          rw [← hsm]
          refine ih (k + 1) _ (by omega) (by omega) ?_ ((((hm1).tr hm2)).up (mg1 _))
          rw [xup_s, hs2, upd_at, upd_upd, Int32.add_assoc, nI_1]
  refine bX10_momentsOf_0 ?_
  rw [hs]
  exact key (j + 1) 0 im (by omega) (by omega) (by rw [hs, upd_self (show s 0 = s 0 + nI 0 by rw [nI_0, Int32.add_zero])]) mk.rf
theorem pX10_moments {d : Nat} {im : XI} {s : Nat → Int32} {np nd : Nat} {set n : Int32} (hs : im 1 = s) (hI : Iv s np nd) : SpI mX10_moments (d + 6) [.ref 0, .int set, .int n] SM im (fun x im' => Pm im (opMoments s set n) x im') := by
  refine SpI.of [some (.ref 0), some (.int set), some (.int n)] rfl (by decide) rfl (fun Q hQ => ?_)
  have h4 := hI.1.2.1
  have hnp := hI.1.1
  have h5 := hI.2.1.2.1
  have hnd := hI.2.1.1
  refine bX10_moments_0   (qX10_isSet hs) ?_
  rintro _ _ ⟨rfl, rfl⟩
  try simp only [hs]
  refine bX10_moments_5   (fun c2 => ?_) (fun c2 => ?_)
  · skip
    try simp only [b2i_z, Classical.not_not, okP, okD, okSet, hs] at c2
    refine bX10_moments_27   (pX10_error (k := 1) rfl (by decide)) ?_
    rintro _ _ ⟨rfl, rfl⟩
    try simp only [hs]
    refine bX10_moments_32   ?_
    refine hQ _ _ ?_
    first
      | (rw [show opMoments s set n = rE _ s from by unfold opMoments; rw [if_pos (by grind)]]; exact Pm.er rfl hs mk.rf (by decide))
      | (rw [show opMoments s set n = rE _ s from by unfold opMoments; rw [if_neg (by grind), if_pos (by grind)]]; exact Pm.er rfl hs mk.rf (by decide))
  · skip
    try simp only [b2i_z, Classical.not_not, okP, okD, okSet, hs] at c2
    refine bX10_moments_8   pX10_in ?_
    rintro _ _ ⟨rfl, rfl⟩
    try simp only [hs]
    refine bX10_moments_15   (fun c5 => ?_) (fun c5 => ?_)
    · skip
      try simp only [b2i_z, Classical.not_not, okP, okD, okSet, hs] at c5
      refine bX10_moments_27   (pX10_error (k := 1) rfl (by decide)) ?_
      rintro _ _ ⟨rfl, rfl⟩
      try simp only [hs]
      refine bX10_moments_32   ?_
      refine hQ _ _ ?_
      first
        | (rw [show opMoments s set n = rE _ s from by unfold opMoments; rw [if_pos (by grind)]]; exact Pm.er rfl hs mk.rf (by decide))
        | (rw [show opMoments s set n = rE _ s from by unfold opMoments; rw [if_neg (by grind), if_pos (by grind)]]; exact Pm.er rfl hs mk.rf (by decide))
    · skip
      try simp only [b2i_z, Classical.not_not, okP, okD, okSet, hs] at c5
      obtain ⟨j, hj, rfl⟩ := (in_c (x := n) (n := 99) rfl (by decide)).mp (by assumption)
      have hj2 : nnat (nI j) = j := nnat_nI (by omega)
      refine bX10_moments_18   (pX10_momentsOf hs hI rfl (by omega)) ?_
      rintro _ im7 ⟨rfl, hs7, hm7⟩
      try simp only [hs7]
      refine bX10_moments_24   ?_
      refine bX10_moments_32   ?_
      refine hQ _ _ ?_
      unfold opMoments
      rw [if_neg (by grind)]
      rw [hj2]
      exact Pm.ok rfl hs7 ((mk.rf).tr hm7)
theorem pX10_moment {d : Nat} {im : XI} {s : Nat → Int32} {np nd : Nat} {set : Int32} (hs : im 1 = s) (hI : Iv s np nd) : SpI mX10_moment (d + 5) [.ref 0, .int set] SM im (fun x im' => Pm im (opMoment s set) x im') := by
  refine SpI.of [some (.ref 0), some (.int set), none, none] rfl (by decide) rfl (fun Q hQ => ?_)
  have h4 := hI.1.2.1
  have hnp := hI.1.1
  have h5 := hI.2.1.2.1
  have hnd := hI.2.1.1
  refine bX10_moment_0   (qX10_isSet hs) ?_
  rintro _ _ ⟨rfl, rfl⟩
  try simp only [hs]
  refine bX10_moment_5   (fun c2 => ?_) (fun c2 => ?_)
  · skip
    try simp only [b2i_z, Classical.not_not, okP, okD, okSet, hs] at c2
    have hc1 : okSet s set := by assumption
    refine bX10_moment_14   ?_
    rw [hs]
    have key : ∀ (n k : Nat) (im1 : XI), 401 < k + n → k ≤ 401 → im1 1 = upd s 0 (s 0 + nI k) → mk im im1 → firstP (fun k => mom0 s set (s 0 + nI k)) 1 (401 - k) k = moment0 s set → V mX10_moment (d + 5) (0, 0) 23 [some (.ref 0), some (.int set), some (.int (s 0)), some (.int (nI k))] [] SM im1 Q := by
      intro n
      induction n with
      | zero => intro k im1 hn1 hn2; omega
      | succ n ih =>
        intro k im1 hn1 hn2 hs1 hm1 hf
        refine bX10_moment_23   (fun c1 => ?_) (fun c1 => ?_)
        · skip
          have hE : 400 < k := (nI_ltI (a := 400) (by omega) (by omega)).mp c1
          have hval : moment0 s set = -1 := by rw [← hf, show 401 - k = 0 by omega]; rfl
          refine bX10_moment_54   (fun c2 => ?_) (fun c2 => ?_)
          · skip
            have hkm := ge_i (b := 400) (by omega) (by omega) c2
            refine bX10_moment_76   ?_
            refine bX10_moment_77   ?_
            refine hQ _ _ ?_
            unfold opMoment
            rw [if_neg (not_not_intro hc1)]
            first
              | (rw [hval, if_neg (nI_nm1 (by omega))]; exact Pm.ok rfl (by rw [xup_s, hs1, upd_upd, upd_self rfl]) ((hm1).up (mg1 _)))
              | (exfalso; omega)
          · skip
            have hkm := lt_i (a := k) (b := 400) (by omega) (by omega) c2
            refine bX10_moment_68   (pX10_error (k := 2) rfl (by decide)) ?_
            rintro _ _ ⟨rfl, rfl⟩
            refine bX10_moment_73   ?_
            refine bX10_moment_77   ?_
            refine hQ _ _ ?_
            unfold opMoment
            rw [if_neg (not_not_intro hc1)]
            first
              | (rw [if_pos hval]; exact Pm.er rfl (by rw [xup_s, hs1, upd_upd, upd_self rfl]) ((hm1).up (mg1 _)) (by decide))
              | (exfalso; omega)
        · skip
          have hB : k ≤ 400 := Nat.not_lt.mp (fun h => c1 ((nI_ltI (a := 400) (by omega) (by omega)).mpr h))
          obtain ⟨f, hff⟩ : ∃ f, 401 - k = f + 1 := ⟨400 - k, by omega⟩
          rw [hff] at hf
          refine bX10_moment_30   (pX10_isMoment hs1 (Iv_free hI (Or.inl rfl))) ?_
          rintro _ im4 ⟨rfl, hs4, hm4⟩
          rw [upd_at, mom0_0]
          refine bX10_moment_35   (fun c5 => ?_) (fun c5 => ?_)
          · skip
            have hz : mom0 s set (s 0 + nI k) = 1 := (momN_01 _ _ _ _).resolve_left c5
            have hval : moment0 s set = nI k := by rw [← hf]; unfold firstP; rw [if_pos hz]
            refine bX10_moment_54   (fun c6 => ?_) (fun c6 => ?_)
            · skip
              have hkm := ge_i (b := 400) (by omega) (by omega) c6
              refine bX10_moment_76   ?_
              refine bX10_moment_77   ?_
              refine hQ _ _ ?_
              unfold opMoment
              rw [if_neg (not_not_intro hc1)]
              first
                | (rw [hval, if_neg (nI_nm1 (by omega))]; exact Pm.ok rfl (by rw [xup_s, hs4, upd_upd, upd_self rfl]) ((((hm1).tr hm4)).up (mg1 _)))
                | (exfalso; omega)
            · skip
              have hkm := lt_i (a := k) (b := 400) (by omega) (by omega) c6
              refine bX10_moment_68   (pX10_error (k := 2) rfl (by decide)) ?_
              rintro _ _ ⟨rfl, rfl⟩
              refine bX10_moment_73   ?_
              refine bX10_moment_77   ?_
              refine hQ _ _ ?_
              unfold opMoment
              rw [if_neg (not_not_intro hc1)]
              first
                | (rw [if_pos hval]; exact Pm.er rfl (by rw [xup_s, hs4, upd_upd, upd_self rfl]) ((((hm1).tr hm4)).up (mg1 _)) (by decide))
                | (exfalso; omega)
          · skip
            have hz : ¬ mom0 s set (s 0 + nI k) = 1 := by rw [show mom0 s set (s 0 + nI k) = 0 from c5]; decide
            refine bX10_moment_38   ?_
            rw [nI_1]
            refine ih (k + 1) _ (by omega) (by omega) ?_ ((((hm1).tr hm4)).up (mg1 _)) ?_
            · rw [xup_s, hs4, upd_at, upd_upd, Int32.add_assoc, nI_1]
            · rw [← hf]; conv => rhs; unfold firstP
              rw [if_neg hz, show 401 - (k + 1) = f by omega]
    exact key 402 0 im (by omega) (by omega) (by rw [hs, upd_self (show s 0 = s 0 + nI 0 by rw [nI_0, Int32.add_zero])]) mk.rf rfl
  · skip
    try simp only [b2i_z, Classical.not_not, okP, okD, okSet, hs] at c2
    refine bX10_moment_8   (pX10_error (k := 1) rfl (by decide)) ?_
    rintro _ _ ⟨rfl, rfl⟩
    try simp only [hs]
    refine bX10_moment_13   ?_
    refine hQ _ _ ?_
    first
      | (rw [show opMoment s set = rE _ s from by unfold opMoment; rw [if_pos (by grind)]]; exact Pm.er rfl hs mk.rf (by decide))
      | (rw [show opMoment s set = rE _ s from by unfold opMoment; rw [if_neg (by grind), if_pos (by grind)]]; exact Pm.er rfl hs mk.rf (by decide))

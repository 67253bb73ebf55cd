theorem pX10_shifts {d : Nat} {im : XI} {s : Nat → Int32} {np nd : Nat} (hs : im 1 = s) (hI : Iv s np nd) : SpV mX10_shifts (d + 1) [.ref 0] SM im (fun im' => im' 1 = shift1 s ∧ mk im im') := by
  refine SpV.of [some (.ref 0), none] rfl (by decide) rfl (fun Q hQ => ?_)
  have h4 := hI.1.2.1
  have hnp := hI.1.1
  refine bX10_shifts_0 (fun c => ?_) (fun c => ?_)
  · rw [hs] at c
    refine bX10_shifts_47 ?_
    refine hQ _ ⟨?_, mk.rf⟩
    unfold shift1
    rw [if_pos c]
    exact hs
  · rw [hs] at c
    have h0 : 0 < np := by
      rcases Nat.eq_zero_or_pos np with e | e
      · exact absurd (by rw [h4, e]; decide) c
      · exact e
    refine bX10_shifts_9 (pX10_draw hs) ?_
    rintro _ im1 ⟨rfl, hs1, hm1⟩
    refine bX10_shifts_13 (fun c2 => ?_) (fun c2 => ?_)
    · refine bX10_shifts_47 ?_
      refine hQ _ ⟨?_, hm1⟩
      unfold shift1
      rw [if_neg c, if_pos (show ¬ jrem (ushr8 (zn (s 1))) 4 = 0 from c2)]
      exact hs1
    · refine bX10_shifts_18 (pX10_draw hs1) ?_
      rintro _ im2 ⟨rfl, hs2, hm2⟩
      rw [upd_at, upd_upd] at hs2
      have e4 : im2 1 4 = nI np := by rw [hs2, upd_ne (by omega)]; exact h4
      rw [upd_at]
      refine bX10_shifts_22 (by rw [e4]; exact nI_ne0 h0 (by omega)) (pX10_draw hs2) ?_
      rintro _ im3 ⟨rfl, hs3, hm3⟩
      rw [upd_at] at hs3
      rw [upd_upd] at hs3
      rw [upd_at, e4]
      obtain ⟨i, hi, he⟩ := jrem_nat (ushr8_pos (zn (zn (s 1)))) h0 (by omega)
      have he2 : ushr8 (zn (zn (s 1))) - ushr8 (zn (zn (s 1))) / nI np * nI np = nI i := he
      rw [he2]
      obtain ⟨-, bt, hb0, hb1, hb2⟩ := hI.1.2.2 i hi
      refine bX10_shifts_37 (qX10_its (w := 2) (i := 10 + 4 * i) hs3 rfl rfl rfl (by omega)) ?_
      rintro _ _ ⟨rfl, rfl⟩
      rw [upd_ne (by omega)]
      refine bX10_shifts_43 (by rw [hb2]; exact nI_ne0 hb0 (by omega)) rfl (qX10_lays1 (w := 3) (i := 11 + 4 * i) hs3 rfl rfl rfl (by omega)) ?_
      rintro im4 ⟨hs4, hm4⟩
      refine bX10_shifts_47 ?_
      refine hQ _ ⟨?_, ((hm1.tr hm2).tr hm3).tr hm4⟩
      rw [hs4]
      unfold shift1
      rw [if_neg c, if_neg (show ¬ ¬ jrem (ushr8 (zn (s 1))) 4 = 0 from not_not_intro c2), h4, he, nnat_nI (by omega)]
      rfl
theorem pX10_ticks {d : Nat} {im : XI} {s : Nat → Int32} {np nd : Nat} {n : Int32} (hs : im 1 = s) (hI : Iv s np nd) : SpI mX10_ticks (d + 6) [.ref 0, .int n] SM im (fun x im' => Pm im (opTicks s n) x im') := by
  refine SpI.of [some (.ref 0), some (.int n), none, none, none] rfl (by decide) rfl (fun Q hQ => ?_)
  refine bX10_ticks_0 (pX10_whyNot hs) ?_
  rintro _ _ ⟨rfl, rfl⟩
  by_cases hc1 : 1 ≤ n ∧ n ≤ 200
  · by_cases hc2 : s 0 + n ≤ 99999
    · have hw : why0 s n 200 = 0 := by unfold why0; rw [if_neg (not_not_intro hc1), if_neg (not_not_intro hc2)]
      rw [hw]
      obtain ⟨j, hj1, hj2, rfl⟩ := (in_ab (a := 1) (n := 200) rfl rfl (by decide) (by decide)).mp hc1
      have key : ∀ (n i : Nat) (im1 : XI), j < i + n → i ≤ j → im1 1 = run1 tick1 s i → mk im im1 → V mX10_ticks (d + 6) (0, 0) 24 [some (.ref 0), some (.int (nI j)), some (.int 0), some (.int (runA tick1 tickA s i)), some (.int (nI i))] [] SM im1 Q := by
        intro n
        induction n with
        | zero => intro i im1 hn1 hn2; omega
        | succ n ih =>
          intro i im1 hn1 hn2 hs1 hm1
          refine bX10_ticks_24   (fun c1 => ?_) (fun c1 => ?_)
          · skip
            have hE : j ≤ i := ge_i (a := j) (b := i) (by omega) (by omega) c1
            refine bX10_ticks_43   ?_
            have : i = j := by omega
            subst this
            refine hQ _ _ ?_
            unfold opTicks opRun
            rw [if_neg (not_not_intro hc1), if_neg (not_not_intro hc2), nnat_nI (by omega)]
            exact Pm.ok rfl hs1 hm1
          · skip
            have hB : i < j := lt_i (a := j) (b := i) (by omega) (by omega) c1
            have hIi := run1_Iv (f := tick1) (fun s h => tick1_Iv h) hI i
            refine bX10_ticks_30   (pX10_aTick hs1 (by first | exact hIi | exact shift1_Iv hIi)) ?_
            rintro _ im2 ⟨rfl, hs2, hm2⟩
            refine bX10_ticks_35   ?_
            rw [nI_1]
            exact ih (i + 1) _ (by omega) (by omega) hs2 (((hm1).tr hm2))
      refine bX10_ticks_8 (fun _ => ?_) (fun c => absurd rfl c)
      refine bX10_ticks_19 ?_
      exact key (j + 1) 0 im (by omega) (by omega) hs mk.rf
    · have hw : why0 s n 200 = 3 := by unfold why0; rw [if_neg (not_not_intro hc1), if_pos hc2]
      rw [hw]
      refine bX10_ticks_8 (fun c => absurd c (by decide)) (fun _ => ?_)
      refine bX10_ticks_13 (pX10_error (k := 3) rfl (by decide)) ?_
      rintro _ _ ⟨rfl, rfl⟩
      refine bX10_ticks_18 ?_
      refine hQ _ _ ?_
      unfold opTicks opRun
      rw [if_neg (not_not_intro hc1), if_pos hc2]
      exact Pm.er rfl hs mk.rf (by decide)
  · have hw : why0 s n 200 = 1 := by unfold why0; rw [if_pos hc1]
    rw [hw]
    refine bX10_ticks_8 (fun c => absurd c (by decide)) (fun _ => ?_)
    refine bX10_ticks_13 (pX10_error (k := 1) rfl (by decide)) ?_
    rintro _ _ ⟨rfl, rfl⟩
    refine bX10_ticks_18 ?_
    refine hQ _ _ ?_
    unfold opTicks opRun
    rw [if_pos hc1]
    exact Pm.er rfl hs mk.rf (by decide)
theorem pX10_loose {d : Nat} {im : XI} {s : Nat → Int32} {np nd : Nat} {n : Int32} (hs : im 1 = s) (hI : Iv s np nd) : SpI mX10_loose (d + 6) [.ref 0, .int n] SM im (fun x im' => Pm im (opLoose s n) x im') := by
  refine SpI.of [some (.ref 0), some (.int n), none, none, none] rfl (by decide) rfl (fun Q hQ => ?_)
  refine bX10_loose_0 (pX10_whyNot hs) ?_
  rintro _ _ ⟨rfl, rfl⟩
  by_cases hc1 : 1 ≤ n ∧ n ≤ 30
  · by_cases hc2 : s 0 + n ≤ 99999
    · have hw : why0 s n 30 = 0 := by unfold why0; rw [if_neg (not_not_intro hc1), if_neg (not_not_intro hc2)]
      rw [hw]
      obtain ⟨j, hj1, hj2, rfl⟩ := (in_ab (a := 1) (n := 30) rfl rfl (by decide) (by decide)).mp hc1
      have key : ∀ (n i : Nat) (im1 : XI), j < i + n → i ≤ j → im1 1 = run1 (fun s => tick1 (shift1 s)) s i → mk im im1 → V mX10_loose (d + 6) (0, 0) 23 [some (.ref 0), some (.int (nI j)), some (.int 0), some (.int (runA (fun s => tick1 (shift1 s)) (fun s => tickA (shift1 s)) s i)), some (.int (nI i))] [] SM im1 Q := by
        intro n
        induction n with
        | zero => intro i im1 hn1 hn2; omega
        | succ n ih =>
          intro i im1 hn1 hn2 hs1 hm1
          refine bX10_loose_23   (fun c1 => ?_) (fun c1 => ?_)
          · skip
            have hE : j ≤ i := ge_i (a := j) (b := i) (by omega) (by omega) c1
            refine bX10_loose_46   ?_
            have : i = j := by omega
            subst this
            refine hQ _ _ ?_
            unfold opLoose opRun
            rw [if_neg (not_not_intro hc1), if_neg (not_not_intro hc2), nnat_nI (by omega)]
            exact Pm.ok rfl hs1 hm1
          · skip
            have hB : i < j := lt_i (a := j) (b := i) (by omega) (by omega) c1
            have hIi := run1_Iv (f := (fun s => tick1 (shift1 s))) (fun s h => tick1_Iv (shift1_Iv h)) hI i
            refine bX10_loose_29   (pX10_shifts hs1 hIi) ?_
            rintro im2 ⟨hs2, hm2⟩
            refine bX10_loose_33   (pX10_aTick hs2 (by first | exact hIi | exact shift1_Iv hIi)) ?_
            rintro _ im3 ⟨rfl, hs3, hm3⟩
            refine bX10_loose_38   ?_
            rw [nI_1]
            exact ih (i + 1) _ (by omega) (by omega) hs3 (((((hm1).tr hm2)).tr hm3))
      refine bX10_loose_7 (fun _ => ?_) (fun c => absurd rfl c)
      refine bX10_loose_18 ?_
      exact key (j + 1) 0 im (by omega) (by omega) hs mk.rf
    · have hw : why0 s n 30 = 3 := by unfold why0; rw [if_neg (not_not_intro hc1), if_pos hc2]
      rw [hw]
      refine bX10_loose_7 (fun c => absurd c (by decide)) (fun _ => ?_)
      refine bX10_loose_12 (pX10_error (k := 3) rfl (by decide)) ?_
      rintro _ _ ⟨rfl, rfl⟩
      refine bX10_loose_17 ?_
      refine hQ _ _ ?_
      unfold opLoose opRun
      rw [if_neg (not_not_intro hc1), if_pos hc2]
      exact Pm.er rfl hs mk.rf (by decide)
  · have hw : why0 s n 30 = 1 := by unfold why0; rw [if_pos hc1]
    rw [hw]
    refine bX10_loose_7 (fun c => absurd c (by decide)) (fun _ => ?_)
    refine bX10_loose_12 (pX10_error (k := 1) rfl (by decide)) ?_
    rintro _ _ ⟨rfl, rfl⟩
    refine bX10_loose_17 ?_
    refine hQ _ _ ?_
    unfold opLoose opRun
    rw [if_pos hc1]
    exact Pm.er rfl hs mk.rf (by decide)
theorem pX10_untell {d : Nat} {im : XI} {s : Nat → Int32} {np nd : Nat} {u : Int32} (hs : im 1 = s) (hI : Iv s np nd) : SpI mX10_untell (d + 1) [.ref 0, .int u] SM im (fun x im' => Pm im (opUntell s u) x im') := by
  refine SpI.of [some (.ref 0), some (.int u), none] rfl (by decide) rfl (fun Q hQ => ?_)
  have h4 := hI.1.2.1
  have hnp := hI.1.1
  have h5 := hI.2.1.2.1
  have hnd := hI.2.1.1
  refine bX10_untell_0   pX10_in ?_
  rintro _ _ ⟨rfl, rfl⟩
  try simp only [hs]
  refine bX10_untell_6   (fun c2 => ?_) (fun c2 => ?_)
  · skip
    try simp only [b2i_z, Classical.not_not, okP, okD, okSet, hs] at c2
    obtain ⟨j, hj, rfl⟩ := (in_c (x := u) (n := 1) rfl (by decide)).mp (by assumption)
    have hj2 : nnat (nI j) = j := nnat_nI (by omega)
    refine bX10_untell_15   (pX10_hasText (u := j) hs rfl (by omega)) ?_
    rintro _ _ ⟨rfl, rfl⟩
    try simp only [hs]
    refine bX10_untell_20   (fun c4 => ?_) (fun c4 => ?_)
    · skip
      try simp only [b2i_z, Classical.not_not, okP, okD, okSet, hs] at c4
      refine bX10_untell_27   ?_
      refine bX10_untell_28 (i1 := 50 + 125 * j) (ix3 50 125 j) (by omega) ?_
      refine hQ _ _ ?_
      unfold opUntell
      rw [if_neg (by grind)]
      rw [hj2]
      first | rw [if_pos (by assumption)] | rw [if_neg (by assumption)]
      exact Pm.ok rfl (by rw [xup_s, hs]) ((mk.rf).up (mg1 _))
    · skip
      try simp only [b2i_z, Classical.not_not, okP, okD, okSet, hs] at c4
      refine bX10_untell_23   ?_
      refine bX10_untell_28 (i1 := 50 + 125 * j) (ix3 50 125 j) (by omega) ?_
      refine hQ _ _ ?_
      unfold opUntell
      rw [if_neg (by grind)]
      rw [hj2]
      first | rw [if_pos (by assumption)] | rw [if_neg (by assumption)]
      exact Pm.ok rfl (by rw [xup_s, hs]) ((mk.rf).up (mg1 _))
  · skip
    try simp only [b2i_z, Classical.not_not, okP, okD, okSet, hs] at c2
    refine bX10_untell_9   (pX10_error (k := 1) rfl (by decide)) ?_
    rintro _ _ ⟨rfl, rfl⟩
    try simp only [hs]
    refine bX10_untell_14   ?_
    refine hQ _ _ ?_
    first
      | (rw [show opUntell s u = rE _ s from by unfold opUntell; rw [if_pos (by grind)]]; exact Pm.er rfl hs mk.rf (by decide))
      | (rw [show opUntell s u = rE _ s from by unfold opUntell; rw [if_neg (by grind), if_pos (by grind)]]; exact Pm.er rfl hs mk.rf (by decide))
theorem pX10_tell {d : Nat} {im : XI} {s : Nat → Int32} {np nd : Nat} {v : Int32} (hs : im 1 = s) (hI : Iv s np nd) : SpI mX10_tell (d + 1) [.ref 0, .int v] SM im (fun x im' => Pm im (opTell s v) x im') := by
  refine SpI.of [some (.ref 0), some (.int v)] rfl (by decide) rfl (fun Q hQ => ?_)
  have h4 := hI.1.2.1
  have hnp := hI.1.1
  have h5 := hI.2.1.2.1
  have hnd := hI.2.1.1
  obtain ⟨nw, hnw, h3⟩ := hI.2.2.2.1
  refine bX10_tell_0   (fun c1 => ?_) (fun c1 => ?_)
  · skip
    try simp only [b2i_z, Classical.not_not, okP, okD, okSet, hs] at c1
    have hlt : nw < 24 := by
      rcases Nat.lt_or_ge nw 24 with h | h
      · exact h
      · exfalso
        have : nw = 24 := by omega
        subst this
        exact absurd h3 ‹¬ s 3 = 24›
    refine bX10_tell_17 (i1 := 360 + nw) (by rw [hs, h3]; exact ix2 360 nw) (by omega) ?_
    refine hQ _ _ ?_
    unfold opTell
    rw [if_neg (by grind)]
    rw [h3, nnat_nI (by omega)]
    refine Pm.ok ?_ ?_ ((mk.rf.up (mg1 _)).up (mg1 _))
    · rw [xup_at, xup_ne (by omega), hs, h3]
    · rw [xup_s, xup_s, hs, upd_ne (by omega), h3]
  · skip
    try simp only [b2i_z, Classical.not_not, okP, okD, okSet, hs] at c1
    refine bX10_tell_11   (pX10_error (k := 4) rfl (by decide)) ?_
    rintro _ _ ⟨rfl, rfl⟩
    try simp only [hs]
    refine bX10_tell_16   ?_
    refine hQ _ _ ?_
    first
      | (rw [show opTell s v = rE _ s from by unfold opTell; rw [if_pos (by grind)]]; exact Pm.er rfl hs mk.rf (by decide))
      | (rw [show opTell s v = rE _ s from by unfold opTell; rw [if_neg (by grind), if_pos (by grind)]]; exact Pm.er rfl hs mk.rf (by decide))
theorem pX10_allParts {d : Nat} {im : XI} {s : Nat → Int32} {np nd : Nat} (hs : im 1 = s) (hI : Iv s np nd) : SpI mX10_allParts (d + 1) [.ref 0] SM im (fun x im' => x = sumP s (nnat (s 5)) ∧ im = im') := by
  refine SpI.of [some (.ref 0), none, none] rfl (by decide) rfl (fun Q hQ => ?_)
  have h5 := hI.2.1.2.1
  have hnd := hI.2.1.1
  have key : ∀ (n e : Nat) , nd < e + n → e ≤ nd → V mX10_allParts (d + 1) (0, 0) 4 [some (.ref 0), some (.int (sumP s e)), some (.int (nI e))] [] SM im Q := by
    intro n
    induction n with
    | zero => intro e  hn1 hn2; omega
    | succ n ih =>
      intro e  hn1 hn2 
      refine bX10_allParts_4   (fun c1 => ?_) (fun c1 => ?_)
      · skip
        rw [hs, h5] at c1
        have hE : nd ≤ e := ge_i (by omega) (by omega) c1
        refine bX10_allParts_29   ?_
        have : e = nd := by omega
        subst this
        exact hQ _ _ ⟨by rw [h5, nnat_nI (by omega)], rfl⟩
      · skip
        rw [hs, h5] at c1
        have hB : e < nd := lt_i (by omega) (by omega) c1
        refine bX10_allParts_14   (qX10_ofDoing (w := 1) (i := 33 + 3 * _) hs rfl rfl rfl (by omega)) ?_
        rintro _ _ ⟨rfl, rfl⟩
        refine bX10_allParts_21   ?_
        rw [nI_1]
        exact ih (e + 1) (by omega) (by omega)
  refine bX10_allParts_0 ?_
  exact key (nd + 1) 0 (by omega) (by omega)
theorem pX10_count {d : Nat} {im : XI} {s : Nat → Int32} {np nd : Nat} {w : Int32} (hs : im 1 = s) (hI : Iv s np nd) : SpI mX10_count (d + 2) [.ref 0, .int w] SM im (fun x im' => Pm im (opCount s (im 0 12) w) x im') := by
  refine SpI.of [some (.ref 0), some (.int w)] rfl (by decide) rfl (fun Q hQ => ?_)
  refine bX10_count_0   (fun c1 => ?_) (fun c1 => ?_) (fun c1 => ?_) (fun c1 => ?_) (fun c1 => ?_) (fun c1 => ?_) (fun c1 => ?_) (fun c1 => ?_) (fun c1_0 c1_1 c1_2 c1_3 c1_4 c1_5 c1_6 c1_7 => ?_)
  · skip
    refine bX10_count_48   ?_
    refine hQ _ _ ?_
    unfold opCount
    first | (subst_vars; exact Pm.ok rfl rfl mk.rf)
  · skip
    refine bX10_count_55   ?_
    refine hQ _ _ ?_
    unfold opCount
    first | (subst_vars; exact Pm.ok rfl rfl mk.rf)
  · skip
    refine bX10_count_62   ?_
    refine hQ _ _ ?_
    unfold opCount
    first | (subst_vars; exact Pm.ok rfl rfl mk.rf)
  · skip
    refine bX10_count_69   (pX10_allParts hs (by assumption)) ?_
    rintro _ _ ⟨rfl, rfl⟩
    refine bX10_count_73   ?_
    refine hQ _ _ ?_
    unfold opCount
    first | (subst_vars; exact Pm.ok rfl rfl mk.rf)
  · skip
    refine bX10_count_74   ?_
    refine hQ _ _ ?_
    unfold opCount
    first | (subst_vars; exact Pm.ok rfl rfl mk.rf)
  · skip
    refine bX10_count_81   ?_
    refine hQ _ _ ?_
    unfold opCount
    first | (subst_vars; exact Pm.ok rfl rfl mk.rf)
  · skip
    refine bX10_count_88   ?_
    refine hQ _ _ ?_
    unfold opCount
    first | (subst_vars; exact Pm.ok rfl rfl mk.rf)
  · skip
    refine bX10_count_93   ?_
    refine hQ _ _ ?_
    unfold opCount
    first | (subst_vars; exact Pm.ok rfl rfl mk.rf)
  · skip
    refine bX10_count_100   (pX10_error (k := 1) rfl (by decide)) ?_
    rintro _ _ ⟨rfl, rfl⟩
    refine bX10_count_105   ?_
    refine hQ _ _ ?_
    unfold opCount
    simp only [*, if_true, if_false]
    exact Pm.er rfl hs mk.rf (by decide)
theorem pX10_told {d : Nat} {im : XI} {s : Nat → Int32} {k : Int32} (hs : im 1 = s) : SpI mX10_told (d + 1) [.ref 0, .int k] SM im (fun x im' => Pm im (opTold s (im 4) k) x im') := by
  refine SpI.of [some (.ref 0), some (.int k)] rfl (by decide) rfl (fun Q hQ => ?_)
  refine bX10_told_0   pX10_in ?_
  rintro _ _ ⟨rfl, rfl⟩
  refine bX10_told_7   (fun c2 => ?_) (fun c2 => ?_)
  · skip
    try simp only [b2i_z, Classical.not_not] at c2
    refine bX10_told_19   (pX10_error (k := 1) rfl (by decide)) ?_
    rintro _ _ ⟨rfl, rfl⟩
    refine bX10_told_24   ?_
    refine hQ _ _ ?_
    unfold opTold
    rw [if_pos (by assumption)]
    exact Pm.er rfl hs mk.rf (by decide)
  · skip
    try simp only [b2i_z, Classical.not_not] at c2
    obtain ⟨j, hj0, hj, rfl⟩ := (in_ab (x := k) (a := 1) (n := 6) rfl rfl (by decide) (by decide)).mp (by assumption)
    refine bX10_told_10  (by rfl) (by omega) ?_
    refine bX10_told_24   ?_
    refine hQ _ _ ?_
    unfold opTold
    rw [if_neg (not_not_intro (by assumption)), nnat_nI (by omega)]
    exact Pm.ok rfl hs mk.rf

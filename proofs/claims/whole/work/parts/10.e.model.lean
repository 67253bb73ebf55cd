theorem pX10_shutNow {d : Nat} {im : XI} {s : Nat → Int32} {np nd : Nat} (hs : im 1 = s) (hI : Iv s np nd) : SpI mX10_shutNow (d + 4) [.ref 0] SM im (fun x im' => x = shutAll s ∧ im' 1 = s ∧ mk im im') := by
  refine SpI.of [some (.ref 0), none, none] rfl (by decide) rfl (fun Q hQ => ?_)
  have h4 := hI.1.2.1
  have hnp := hI.1.1
  have key : ∀ (n p : Nat) (im1 : XI), np < p + n → p ≤ np → im1 1 = s → mk im im1 → V mX10_shutNow (d + 4) (0, 0) 4 [some (.ref 0), some (.int (shutN s p)), some (.int (nI p))] [] SM im1 Q := by
    intro n
    induction n with
    | zero => intro p im1 hn1 hn2; omega
    | succ n ih =>
      intro p im1 hn1 hn2 hs1 hm1
      refine bX10_shutNow_4   (fun c1 => ?_) (fun c1 => ?_)
      · skip
        rw [hs1, h4] at c1
        have hE : np ≤ p := ge_i (by omega) (by omega) c1
        refine bX10_shutNow_30   ?_
        have : p = np := by omega
        subst this
        exact hQ _ _ ⟨by unfold shutAll; rw [h4, nnat_nI (by omega)], hs1, hm1⟩
      · skip
        rw [hs1, h4] at c1
        have hB : p < np := lt_i (by omega) (by omega) c1
        obtain ⟨-, b, hb0, hb1, hb2⟩ := hI.1.2.2 p hB
        have hbz : ¬ s (10 + 4 * p) = 0 := by rw [hb2]; exact nI_ne0 hb0 (by omega)
        have htx := hI.2.2.2.2.1
        refine bX10_shutNow_14   (pX10_shutOf hs1 (by omega) (by assumption) (by assumption)) ?_
        rintro _ im2 ⟨rfl, hs2, hm2⟩
        refine bX10_shutNow_20   ?_
        rw [nI_1]
        exact ih (p + 1) _ (by omega) (by omega) hs2 (((hm1).tr hm2))
  refine bX10_shutNow_0 ?_
  exact key (np + 1) 0 im (by omega) (by omega) hs mk.rf
theorem pX10_onBy {d : Nat} {im : XI} {s : Nat → Int32} {np nd : Nat} {e : Nat} {sh : Int32} (hs : im 1 = s) (hI : Iv s np nd) (he : e < nd) : SpI mX10_onBy (d + 3) [.ref 0, .int (nI e), .int sh] SM im (fun x im' => x = onBy0 s e sh ∧ im' 1 = s ∧ mk im im') := by
  refine SpI.of [some (.ref 0), some (.int (nI e)), some (.int sh), none] rfl (by decide) rfl (fun Q hQ => ?_)
  have hnd := hI.2.1.1
  have hnp := hI.1.1
  obtain ⟨⟨w, hw0, hw⟩, -⟩ := hI.2.1.2.2 e he
  have htx := hI.2.2.2.2.2
  refine bX10_onBy_0   (qX10_ofDoing (w := 0) (i := 32 + 3 * _) hs rfl rfl rfl (by omega)) ?_
  rintro _ _ ⟨rfl, rfl⟩
  rw [hw]
  refine bX10_onBy_6   (pX10_triesOf hs (by omega)) ?_
  rintro _ _ ⟨rfl, rfl⟩
  refine bX10_onBy_13   pX10_manyIn ?_
  rintro _ _ ⟨rfl, rfl⟩
  refine bX10_onBy_23   (qX10_ofDoing (w := 1) (i := 33 + 3 * _) hs rfl rfl rfl (by omega)) ?_
  rintro _ _ ⟨rfl, rfl⟩
  refine bX10_onBy_29  (by first | rfl | assumption) (pX10_onTold hs (by assumption)) ?_
  rintro _ im5 ⟨rfl, hs5, hm5⟩
  refine bX10_onBy_32   ?_
  refine hQ _ _ ⟨?_, hs5, ((mk.rf).tr hm5)⟩
  unfold onBy0
  rw [hw, nnat_nI (by omega)]
theorem pX10_getsOn {d : Nat} {im : XI} {s : Nat → Int32} {np nd : Nat} {e : Nat} {sh : Int32} (hs : im 1 = s) (hI : Iv s np nd) (he : e < nd) : SpI mX10_getsOn (d + 4) [.ref 0, .int (nI e), .int sh] SM im (fun x im' => x = ends s e sh ∧ im' 1 = upd s (33 + 3 * e) (on1 s e sh) ∧ mk im im') := by
  refine SpI.of [some (.ref 0), some (.int (nI e)), some (.int sh), none] rfl (by decide) rfl (fun Q hQ => ?_)
  have hnd := hI.2.1.1
  refine bX10_getsOn_0   (qX10_ofDoing (w := 1) (i := 33 + 3 * _) hs rfl rfl rfl (by omega)) ?_
  rintro _ _ ⟨rfl, rfl⟩
  refine bX10_getsOn_6   (fun c2 => ?_) (fun c2 => ?_)
  · skip
    have hon : on1 s e sh = s (33 + 3 * e) := by unfold on1; rw [if_pos (Or.inl c2)]
    refine bX10_getsOn_24   ?_
    refine hQ _ _ ⟨?_, ?_, mk.rf⟩
    · unfold ends; rw [b2i_f]; rintro ⟨h1, h2⟩; rw [hon] at h2; first | exact h1 (by assumption) | exact (by assumption : ¬ s (33 + 3 * e) = 0) h2
    · rw [hs, hon, upd_self rfl]
  · skip
    refine bX10_getsOn_11   (qX10_ofDoing (w := 2) (i := 34 + 3 * _) hs rfl rfl rfl (by omega)) ?_
    rintro _ _ ⟨rfl, rfl⟩
    refine bX10_getsOn_17   (fun c4 => ?_) (fun c4 => ?_)
    · skip
      have hon : on1 s e sh = held0 (s (33 + 3 * e) - onBy0 s e sh) 0 99 := by unfold on1; rw [if_neg (by rintro (h | h) <;> contradiction)]
      refine bX10_getsOn_26   (pX10_onBy hs (by assumption) (by omega)) ?_
      rintro _ im5 ⟨rfl, hs5, hm5⟩
      refine bX10_getsOn_36   pX10_held ?_
      rintro _ _ ⟨rfl, rfl⟩
      refine bX10_getsOn_43  (by first | rfl | assumption) (qX10_laysDoing (w := 1) (i := 33 + 3 * _) hs5 rfl rfl rfl (by omega)) ?_
      rintro im7 ⟨hs7, hm7⟩
      refine bX10_getsOn_46   (qX10_ofDoing (w := 1) (i := 33 + 3 * _) hs7 rfl rfl rfl (by omega)) ?_
      rintro _ _ ⟨rfl, rfl⟩
      rw [upd_at]
      refine bX10_getsOn_52   (fun c9 => ?_) (fun c9 => ?_)
      · skip
        refine bX10_getsOn_59   ?_
        refine bX10_getsOn_60  (by first | exact b2i_01 _ | assumption | decide) ?_
        refine hQ _ _ ⟨?_, by rw [hon]; exact hs7, ((((mk.rf).tr hm5)).tr hm7)⟩
        unfold ends
        rw [hon]
        first | rw [b2i_t ⟨by assumption, by assumption⟩] | rw [b2i_f (fun h => absurd h.2 (by assumption))]
      · skip
        refine bX10_getsOn_55   ?_
        refine bX10_getsOn_60  (by first | exact b2i_01 _ | assumption | decide) ?_
        refine hQ _ _ ⟨?_, by rw [hon]; exact hs7, ((((mk.rf).tr hm5)).tr hm7)⟩
        unfold ends
        rw [hon]
        first | rw [b2i_t ⟨by assumption, by assumption⟩] | rw [b2i_f (fun h => absurd h.2 (by assumption))]
    · skip
      have hon : on1 s e sh = s (33 + 3 * e) := by unfold on1; rw [if_pos (Or.inr c4)]
      refine bX10_getsOn_24   ?_
      refine hQ _ _ ⟨?_, ?_, mk.rf⟩
      · unfold ends; rw [b2i_f]; rintro ⟨h1, h2⟩; rw [hon] at h2; first | exact h1 (by assumption) | exact (by assumption : ¬ s (33 + 3 * e) = 0) h2
      · rw [hs, hon, upd_self rfl]
theorem pX10_aTick {d : Nat} {im : XI} {s : Nat → Int32} {np nd : Nat} (hs : im 1 = s) (hI : Iv s np nd) : SpI mX10_aTick (d + 5) [.ref 0] SM im (fun x im' => x = tickA s ∧ im' 1 = tick1 s ∧ mk im im') := by
  refine SpI.of [some (.ref 0), none, none, none] rfl (by decide) rfl (fun Q hQ => ?_)
  have h5 := hI.2.1.2.1
  have hnd := hI.2.1.1
  refine bX10_aTick_0 (pX10_shutNow hs hI) ?_
  rintro _ im0 ⟨rfl, hs0, hm0⟩
  refine bX10_aTick_4 ?_
  have key : ∀ (n e : Nat) (im1 : XI), nd < e + n → e ≤ nd → im1 1 = tickS s (shutAll s) e → mk im im1 → V mX10_aTick (d + 5) (0, 0) 9 [some (.ref 0), some (.int (shutAll s)), some (.int (tickN s (shutAll s) e)), some (.int (nI e))] [] SM im1 Q := by
    intro n
    induction n with
    | zero => intro e im1 hn1 hn2; omega
    | succ n ih =>
      intro e im1 hn1 hn2 hs1 hm1
      refine bX10_aTick_9   (fun c1 => ?_) (fun c1 => ?_)
      · skip
        rw [hs1, tickS_o (by omega), h5] at c1
        have hE : nd ≤ e := ge_i (by omega) (by omega) c1
        refine bX10_aTick_42   ?_
        have : e = nd := by omega
        subst this
        refine hQ _ _ ⟨by unfold tickA; rw [h5, nnat_nI (by omega)], ?_, (hm1).up (mg1 _)⟩
        rw [xup_s, hs1]
        unfold tick1
        rw [h5, nnat_nI (by omega), tickS_o (by omega)]
      · skip
        rw [hs1, tickS_o (by omega), h5] at c1
        have hB : e < nd := lt_i (by omega) (by omega) c1
        have hI1 := tickS_Iv (sh := shutAll s) hI (n := e) (by omega)
        refine bX10_aTick_19   (pX10_getsOn hs1 hI1 hB) ?_
        rintro _ im2 ⟨rfl, hs2, hm2⟩
        refine bX10_aTick_26   (fun c3 => ?_) (fun c3 => ?_)
        · skip
          refine bX10_aTick_33   ?_
          skip
          refine bX10_aTick_34   ?_
          rw [nI_1]
          have hz : tickN s (shutAll s) e + ends (tickS s (shutAll s) e) e (shutAll s) = tickN s (shutAll s) (e + 1) := rfl
          first | (rw [show ends (tickS s (shutAll s) e) e (shutAll s) = 0 by assumption] at hz; rw [hz]) | (rw [show ends (tickS s (shutAll s) e) e (shutAll s) = 1 from (b2i_01 _).resolve_left (by assumption)] at hz; rw [hz])
          exact ih (e + 1) _ (by omega) (by omega) hs2 (((hm1).tr hm2))
        · skip
          refine bX10_aTick_29   ?_
          skip
          refine bX10_aTick_34   ?_
          rw [nI_1]
          have hz : tickN s (shutAll s) e + ends (tickS s (shutAll s) e) e (shutAll s) = tickN s (shutAll s) (e + 1) := rfl
          first | (rw [show ends (tickS s (shutAll s) e) e (shutAll s) = 0 by assumption] at hz; rw [hz]) | (rw [show ends (tickS s (shutAll s) e) e (shutAll s) = 1 from (b2i_01 _).resolve_left (by assumption)] at hz; rw [hz])
          exact ih (e + 1) _ (by omega) (by omega) hs2 (((hm1).tr hm2))
  exact key (nd + 1) 0 im0 (by omega) (by omega) hs0 hm0
theorem pX10_draw {d : Nat} {im : XI} {s : Nat → Int32} (hs : im 1 = s) : SpI mX10_draw d [.ref 0] SM im (fun x im' => x = ushr8 (zn (s 1)) ∧ im' 1 = upd s 1 (zn (s 1)) ∧ mk im im') := by
  refine SpI.of [some (.ref 0)] rfl (by decide) rfl (fun Q hQ => ?_)
  refine bX10_draw_0   ?_
  refine hQ _ _ ⟨?_, ?_, mk.rf.up (mg1 _)⟩
  · rw [xup_at, hs]; rfl
  · rw [xup_s, hs]; rfl
theorem pX10_isKind {d : Nat} {im : XI} {S : XS} {km : Int32}  : SpI mX10_isKind (d + 1) [.int km] S im (fun x im' => x = b2i (okKm km) ∧ im = im') := by
  refine SpI.of [some (.int km)] rfl (by decide) rfl (fun Q hQ => ?_)
  refine bX10_isKind_0   pX10_in ?_
  rintro _ _ ⟨rfl, rfl⟩
  refine bX10_isKind_7  (by first | exact b2i_01 _ | assumption | decide) ?_
  exact hQ _ _ ⟨rfl, rfl⟩
theorem pX10_isBeat {d : Nat} {im : XI} {S : XS} {b f : Int32}  : SpI mX10_isBeat (d + 1) [.int b, .int f] S im (fun x im' => x = b2i (okBt b f) ∧ im = im') := by
  refine SpI.of [some (.int b), some (.int f)] rfl (by decide) rfl (fun Q hQ => ?_)
  refine bX10_isBeat_0   pX10_in ?_
  rintro _ _ ⟨rfl, rfl⟩
  refine bX10_isBeat_7   (fun c2 => ?_) (fun c2 => ?_)
  · skip
    try simp only [b2i_z, Classical.not_not] at c2
    refine bX10_isBeat_25   ?_
    refine bX10_isBeat_26  (by first | exact b2i_01 _ | assumption | decide) ?_
    first | exact hQ _ _ ⟨(b2i_t ⟨by assumption, by assumption⟩).symm, rfl⟩ | exact hQ _ _ ⟨(b2i_f (fun h => absurd h.1 (by assumption))).symm, rfl⟩ | exact hQ _ _ ⟨(b2i_f (fun h => absurd h.2 (by assumption))).symm, rfl⟩
  · skip
    try simp only [b2i_z, Classical.not_not] at c2
    refine bX10_isBeat_10   pX10_in ?_
    rintro _ _ ⟨rfl, rfl⟩
    refine bX10_isBeat_18   (fun c4 => ?_) (fun c4 => ?_)
    · skip
      try simp only [b2i_z, Classical.not_not] at c4
      refine bX10_isBeat_25   ?_
      refine bX10_isBeat_26  (by first | exact b2i_01 _ | assumption | decide) ?_
      first | exact hQ _ _ ⟨(b2i_t ⟨by assumption, by assumption⟩).symm, rfl⟩ | exact hQ _ _ ⟨(b2i_f (fun h => absurd h.1 (by assumption))).symm, rfl⟩ | exact hQ _ _ ⟨(b2i_f (fun h => absurd h.2 (by assumption))).symm, rfl⟩
    · skip
      try simp only [b2i_z, Classical.not_not] at c4
      refine bX10_isBeat_21   ?_
      refine bX10_isBeat_26  (by first | exact b2i_01 _ | assumption | decide) ?_
      first | exact hQ _ _ ⟨(b2i_t ⟨by assumption, by assumption⟩).symm, rfl⟩ | exact hQ _ _ ⟨(b2i_f (fun h => absurd h.1 (by assumption))).symm, rfl⟩ | exact hQ _ _ ⟨(b2i_f (fun h => absurd h.2 (by assumption))).symm, rfl⟩
theorem pX10_whyNot {d : Nat} {im : XI} {s : Nat → Int32} {n mo : Int32} (hs : im 1 = s) : SpI mX10_whyNot (d + 1) [.ref 0, .int n, .int mo] SM im (fun x im' => x = why0 s n mo ∧ im = im') := by
  refine SpI.of [some (.ref 0), some (.int n), some (.int mo)] rfl (by decide) rfl (fun Q hQ => ?_)
  subst hs
  refine bX10_whyNot_0   pX10_in ?_
  rintro _ _ ⟨rfl, rfl⟩
  refine bX10_whyNot_6   (fun c2 => ?_) (fun c2 => ?_)
  · skip
    try simp only [b2i_z, Classical.not_not] at c2
    refine bX10_whyNot_13   (fun c3 => ?_) (fun c3 => ?_)
    · skip
      try simp only [b2i_z, Classical.not_not] at c3
      refine bX10_whyNot_30   ?_
      refine bX10_whyNot_31   ?_
      refine hQ _ _ ⟨?_, rfl⟩
      unfold why0
      first | rw [if_pos (by assumption)] | rw [if_neg (not_not_intro (by assumption)), if_neg (not_not_intro (by assumption))] | rw [if_neg (not_not_intro (by assumption)), if_pos (by assumption)]
    · skip
      try simp only [b2i_z, Classical.not_not] at c3
      refine bX10_whyNot_26   ?_
      refine bX10_whyNot_31   ?_
      refine hQ _ _ ⟨?_, rfl⟩
      unfold why0
      first | rw [if_pos (by assumption)] | rw [if_neg (not_not_intro (by assumption)), if_neg (not_not_intro (by assumption))] | rw [if_neg (not_not_intro (by assumption)), if_pos (by assumption)]
  · skip
    try simp only [b2i_z, Classical.not_not] at c2
    refine bX10_whyNot_9   ?_
    refine bX10_whyNot_31   ?_
    refine hQ _ _ ⟨?_, rfl⟩
    unfold why0
    first | rw [if_pos (by assumption)] | rw [if_neg (not_not_intro (by assumption)), if_neg (not_not_intro (by assumption))] | rw [if_neg (not_not_intro (by assumption)), if_pos (by assumption)]

theorem pX9_ticks {d : Nat} {im : XI} {bo : Bool} {s : Nat → Int32} {np nd : Nat} {n : Int32} (hR : RI 0 s im) (hI : Iv s np nd) : SpI mX9_ticks (d + 6) [.ref 0, .int n] (SC bo) im (fun x im' => Pc im (opTicks s n) x im') := by
  refine SpI.of [some (.ref 0), some (.int n), none, none] rfl (by decide) rfl (fun Q hQ => ?_)
  refine bX9_ticks_0 pX9_within ?_
  rintro x0 im1 ⟨hx, hm⟩
  subst hm
  refine bX9_ticks_8 (fun c => ?_) (fun c => ?_)
  rotate_left
  · rw [hx, b2i_z] at c
    refine bX9_ticks_11 (pX9_fail (k := 1) (by decide) (by decide) (by decide)) ?_
    rintro _ _ ⟨rfl, rfl⟩
    refine bX9_ticks_17 ?_
    refine hQ _ _ ?_
    unfold opTicks
    rw [opRun, if_pos c]
    exact Pc.er hI rfl hR kK.rf (by decide)
  rw [hx, b2i_nz] at c
  obtain ⟨j, hj1, hj2, rfl⟩ := (in_ab (x := n) (a := 1) (n := 200) rfl rfl (by decide) (by decide)).mp c
  have hjn : nnat (nI j) = j := nnat_nI (by omega)
  refine bX9_ticks_18 (fun c2 => ?_) (fun c2 => ?_)
  rotate_left
  · rw [nowW hR] at c2
    refine bX9_ticks_32 (pX9_fail (k := 3) (by decide) (by decide) (by decide)) ?_
    rintro _ _ ⟨rfl, rfl⟩
    refine bX9_ticks_38 ?_
    refine hQ _ _ ?_
    unfold opTicks
    rw [opRun, if_neg (not_not_intro c), if_pos c2]
    exact Pc.er hI rfl hR kK.rf (by decide)
  rw [nowW hR] at c2
  have hIk : ∀ k, Iv (run1 tick1 s k) np nd := fun k => run1_Iv (fun s h => tick1_Iv h) hI k
  have key : ∀ (g k : Nat) (im1 : XI), k + g = j → RI 0 (run1 tick1 s k) im1 → kK im im1 → V mX9_ticks (d + 6) (0, 0) 43 [some (.ref 0), some (.int (nI j)), some (.int (runA tick1 tickA s k)), some (.int (nI k))] [] (SC bo) im1 Q := by
    intro g
    induction g with
    | zero =>
      intro k im1 hk hR1 hk1
      obtain rfl : k = j := by omega
      refine bX9_ticks_43 (fun _ => ?_) (fun d1 => absurd (Int32.le_refl _) d1)
      refine bX9_ticks_64 ?_
      refine hQ _ _ ?_
      unfold opTicks opRun
      rw [if_neg (not_not_intro c), if_neg (not_not_intro c2), hjn]
      exact Pc.ok rfl hR1 hk1
    | succ g ih =>
      intro k im1 hk hR1 hk1
      refine bX9_ticks_43 (fun d1 => absurd (ge_i (by omega) (by omega) d1) (by omega)) (fun _ => ?_)
      refine bX9_ticks_48 (pX2_goBy hR1 (hIk k)) ?_
      rintro _ im2 ⟨rfl, hR2, hk2⟩
      refine bX9_ticks_56 ?_
      rw [nI_1]
      exact ih (k + 1) im2 (by omega) hR2 (hk1.tr hk2)
  refine bX9_ticks_39 ?_
  exact key j 0 im (by omega) hR kK.rf
theorem pX9_loose {d : Nat} {im : XI} {bo : Bool} {s : Nat → Int32} {np nd : Nat} {n : Int32} (hR : RI 0 s im) (hI : Iv s np nd) : SpI mX9_loose (d + 6) [.ref 0, .int n] (SC bo) im (fun x im' => Pc im (opLoose s n) x im') := by
  refine SpI.of [some (.ref 0), some (.int n), none, none] rfl (by decide) rfl (fun Q hQ => ?_)
  refine bX9_loose_0 pX9_within ?_
  rintro x0 im1 ⟨hx, hm⟩
  subst hm
  refine bX9_loose_7 (fun c => ?_) (fun c => ?_)
  rotate_left
  · rw [hx, b2i_z] at c
    refine bX9_loose_10 (pX9_fail (k := 1) (by decide) (by decide) (by decide)) ?_
    rintro _ _ ⟨rfl, rfl⟩
    refine bX9_loose_16 ?_
    refine hQ _ _ ?_
    unfold opLoose
    rw [opRun, if_pos c]
    exact Pc.er hI rfl hR kK.rf (by decide)
  rw [hx, b2i_nz] at c
  obtain ⟨j, hj1, hj2, rfl⟩ := (in_ab (x := n) (a := 1) (n := 30) rfl rfl (by decide) (by decide)).mp c
  have hjn : nnat (nI j) = j := nnat_nI (by omega)
  refine bX9_loose_17 (fun c2 => ?_) (fun c2 => ?_)
  rotate_left
  · rw [nowW hR] at c2
    refine bX9_loose_31 (pX9_fail (k := 3) (by decide) (by decide) (by decide)) ?_
    rintro _ _ ⟨rfl, rfl⟩
    refine bX9_loose_37 ?_
    refine hQ _ _ ?_
    unfold opLoose
    rw [opRun, if_neg (not_not_intro c), if_pos c2]
    exact Pc.er hI rfl hR kK.rf (by decide)
  rw [nowW hR] at c2
  have hIk : ∀ k, Iv (run1 (fun s => tick1 (shift1 s)) s k) np nd := fun k => run1_Iv (fun s h => tick1_Iv (shift1_Iv h)) hI k
  have key : ∀ (g k : Nat) (im1 : XI), k + g = j → RI 0 (run1 (fun s => tick1 (shift1 s)) s k) im1 → kK im im1 → V mX9_loose (d + 6) (0, 0) 42 [some (.ref 0), some (.int (nI j)), some (.int (runA (fun s => tick1 (shift1 s)) (fun s => tickA (shift1 s)) s k)), some (.int (nI k))] [] (SC bo) im1 Q := by
    intro g
    induction g with
    | zero =>
      intro k im1 hk hR1 hk1
      obtain rfl : k = j := by omega
      refine bX9_loose_42 (fun _ => ?_) (fun d1 => absurd (Int32.le_refl _) d1)
      refine bX9_loose_70 ?_
      refine hQ _ _ ?_
      unfold opLoose opRun
      rw [if_neg (not_not_intro c), if_neg (not_not_intro c2), hjn]
      exact Pc.ok rfl hR1 hk1
    | succ g ih =>
      intro k im1 hk hR1 hk1
      refine bX9_loose_42 (fun d1 => absurd (ge_i (by omega) (by omega) d1) (by omega)) (fun _ => ?_)
      refine bX9_loose_47 (pX2_drawPhase hR1 (hIk k)) ?_
      rintro im2 ⟨hR2, hk2⟩
      refine bX9_loose_54 (pX2_goBy hR2 (shift1_Iv (hIk k))) ?_
      rintro _ im3 ⟨rfl, hR3, hk3⟩
      refine bX9_loose_62 ?_
      rw [nI_1]
      exact ih (k + 1) im3 (by omega) hR3 ((hk1.tr hk2).tr hk3)
  refine bX9_loose_38 ?_
  exact key j 0 im (by omega) hR kK.rf
theorem pX9_then {d : Nat} {im : XI} {bo : Bool} {s : Nat → Int32} {np nd : Nat} {v w : Int32} (hR : RI 0 s im) (hI : Iv s np nd) : SpI mX9_then (d + 6) [.ref 0, .int v, .int w] (SC bo) im (fun x im' => Pc im (opThen s v w) x im') := by
  refine SpI.of [some (.ref 0), some (.int v), some (.int w)] rfl (by decide) rfl (fun Q hQ => ?_)
  have hnp := hI.1.1
  have hnd := hI.2.1.1
  have bad : ¬ (okD s v ∧ (0 ≤ w ∧ w ≤ 200)) → V mX9_then (d + 6) (0, 0) 22 [some (.ref 0), some (.int v), some (.int w)] [] (SC bo) im Q := by
    intro h
    refine bX9_then_22 (pX9_fail (k := 1) (by decide) (by decide) (by decide)) ?_
    rintro _ _ ⟨rfl, rfl⟩
    refine bX9_then_28 ?_
    refine hQ _ _ ?_
    unfold opThen
    rw [if_pos h]
    exact Pc.er hI rfl hR kK.rf (by decide)
  refine bX9_then_0 (pX2_hasDoing hR) ?_
  rintro x0 im1 ⟨hx, hm⟩
  subst hm
  refine bX9_then_8 (fun c => ?_) (fun c => ?_)
  · rw [hx, b2i_z] at c
    exact bad (fun h => c h.1)
  rw [hx, b2i_nz] at c
  have g0 := c
  clear c
  clear hx
  refine bX9_then_11 pX9_within ?_
  rintro x1 im1 ⟨hx, hm⟩
  subst hm
  refine bX9_then_19 (fun c => ?_) (fun c => ?_)
  rotate_left
  · rw [hx, b2i_z] at c
    exact bad (fun h => c h.2)
  rw [hx, b2i_nz] at c
  have g1 := c
  clear c
  clear hx
  have hc1 : okD s v ∧ (0 ≤ w ∧ w ≤ 200) := ⟨g0, g1⟩
  obtain ⟨e, he, rfl⟩ := (in_n (n := nd) (by have := hI.2.1.1; omega)).mp (show 0 ≤ v ∧ v ≤ nI nd - 1 by rw [← hI.2.1.2.1]; exact g0)
  have hve : nnat (nI e) = e := nnat_nI (by have := hI.2.1.1; omega)
  obtain ⟨j, hj, rfl⟩ := (in_c (x := w) (n := 200) rfl (by decide)).mp g1
  refine bX9_then_29 rfl (by omega) (pX1_partsBehind hR hI he rfl rfl hj) ?_
  rintro _ im2 ⟨rfl, hk⟩
  refine bX9_then_46 ?_
  refine hQ _ _ ?_
  unfold opThen
  rw [if_neg (not_not_intro hc1), hve, nnat_nI (n := j) (by omega)]
  exact Pc.ok rfl (hR.kC hI hk) hk.K
theorem pX9_soonest {d : Nat} {im : XI} {bo : Bool} {s : Nat → Int32} {np nd : Nat} {v : Int32} (hR : RI 0 s im) (hI : Iv s np nd) : SpI mX9_soonest (d + 6) [.ref 0, .int v] (SC bo) im (fun x im' => Pc im (opSoonest s v) x im') := by
  refine SpI.of [some (.ref 0), some (.int v), none] rfl (by decide) rfl (fun Q hQ => ?_)
  have hnp := hI.1.1
  have hnd := hI.2.1.1
  have bad : ¬ (okD s v) → V mX9_soonest (d + 6) (0, 0) 11 [some (.ref 0), some (.int v), none] [] (SC bo) im Q := by
    intro h
    refine bX9_soonest_11 (pX9_fail (k := 1) (by decide) (by decide) (by decide)) ?_
    rintro _ _ ⟨rfl, rfl⟩
    refine bX9_soonest_17 ?_
    refine hQ _ _ ?_
    unfold opSoonest
    rw [if_pos h]
    exact Pc.er hI rfl hR kK.rf (by decide)
  refine bX9_soonest_0 (pX2_hasDoing hR) ?_
  rintro x0 im1 ⟨hx, hm⟩
  subst hm
  refine bX9_soonest_8 (fun c => ?_) (fun c => ?_)
  rotate_left
  · rw [hx, b2i_z] at c
    exact bad (fun h => c h)
  rw [hx, b2i_nz] at c
  have g0 := c
  clear c
  clear hx
  have hc1 : okD s v := g0
  obtain ⟨e, he, rfl⟩ := (in_n (n := nd) (by have := hI.2.1.1; omega)).mp (show 0 ≤ v ∧ v ≤ nI nd - 1 by rw [← hI.2.1.2.1]; exact g0)
  have hve : nnat (nI e) = e := nnat_nI (by have := hI.2.1.1; omega)
  refine bX9_soonest_18 rfl (by omega) (pX1_soonestDone hR hI he rfl) ?_
  rintro _ im2 ⟨rfl, hk⟩
  have hnat : done0 s e (s (34 + 3 * e)) 200 = -1 ∨ ∃ q : Nat, q < 1000 ∧ done0 s e (s (34 + 3 * e)) 200 = nI q := by
    unfold done0
    rcases firstP_nat (c := leftN s e (s (34 + 3 * e)) (s 0)) (v := 0) (200 + 1) 0 with h | ⟨q, _, h2, h3⟩
    · exact Or.inl h
    · exact Or.inr ⟨q, by omega, h3⟩
  refine bX9_soonest_34 (fun h => ?_) (fun h => ?_)
  · have hne : ¬ done0 s e (s (34 + 3 * e)) 200 = -1 := fun e => by rw [e] at h; exact absurd h (by decide)
    refine bX9_soonest_48 ?_
    refine bX9_soonest_49 ?_
    refine hQ _ _ ?_
    unfold opSoonest
    rw [if_neg (not_not_intro hc1), hve, if_neg hne]
    exact Pc.ok rfl (hR.kC hI hk) hk.K
  · have he1 : done0 s e (s (34 + 3 * e)) 200 = -1 := by
      rcases hnat with e | ⟨q, hq, e⟩
      · exact e
      · rw [e] at h; exact absurd (nI_pos' (by omega)) h
    refine bX9_soonest_39 (pX9_fail (k := 2) (by decide) (by decide) (by decide)) ?_
    rintro _ _ ⟨rfl, rfl⟩
    refine bX9_soonest_45 ?_
    refine bX9_soonest_49 ?_
    refine hQ _ _ ?_
    unfold opSoonest
    rw [if_neg (not_not_intro hc1), hve, if_pos he1]
    exact Pc.er hI rfl (hR.kC hI hk) hk.K (by decide)
theorem pX9_moment {d : Nat} {im : XI} {bo : Bool} {s : Nat → Int32} {np nd : Nat} {v : Int32} (hR : RI 0 s im) (hI : Iv s np nd) : SpI mX9_moment (d + 7) [.ref 0, .int v] (SC bo) im (fun x im' => Pc im (opMoment s v) x im') := by
  refine SpI.of [some (.ref 0), some (.int v), none] rfl (by decide) rfl (fun Q hQ => ?_)
  have hnp := hI.1.1
  have hnd := hI.2.1.1
  have bad : ¬ (okSet s v) → V mX9_moment (d + 7) (0, 0) 11 [some (.ref 0), some (.int v), none] [] (SC bo) im Q := by
    intro h
    refine bX9_moment_11 (pX9_fail (k := 1) (by decide) (by decide) (by decide)) ?_
    rintro _ _ ⟨rfl, rfl⟩
    refine bX9_moment_17 ?_
    refine hQ _ _ ?_
    unfold opMoment
    rw [if_pos h]
    exact Pc.er hI rfl hR kK.rf (by decide)
  refine bX9_moment_0 (pX2_hasSet hR) ?_
  rintro x0 im1 ⟨hx, hm⟩
  subst hm
  refine bX9_moment_8 (fun c => ?_) (fun c => ?_)
  rotate_left
  · rw [hx, b2i_z] at c
    exact bad (fun h => c h)
  rw [hx, b2i_nz] at c
  have g0 := c
  clear c
  clear hx
  have hc1 : okSet s v := g0
  
  refine bX9_moment_18 (pX1_firstMoment hR hI) ?_
  rintro _ im2 ⟨rfl, hk⟩
  have hnat : moment0 s v = -1 ∨ ∃ q : Nat, q < 1000 ∧ moment0 s v = nI q := by
    unfold moment0
    rcases firstP_nat (c := fun k => mom0 s v (s 0 + nI k)) (v := 1) 401 0 with h | ⟨q, _, h2, h3⟩
    · exact Or.inl h
    · exact Or.inr ⟨q, by omega, h3⟩
  refine bX9_moment_26 (fun h => ?_) (fun h => ?_)
  · have hne : ¬ moment0 s v = -1 := fun e => by rw [e] at h; exact absurd h (by decide)
    refine bX9_moment_40 ?_
    refine bX9_moment_41 ?_
    refine hQ _ _ ?_
    unfold opMoment
    rw [if_neg (not_not_intro hc1), if_neg hne]
    exact Pc.ok rfl (hR.kC hI hk) hk.K
  · have he1 : moment0 s v = -1 := by
      rcases hnat with e | ⟨q, hq, e⟩
      · exact e
      · rw [e] at h; exact absurd (nI_pos' (by omega)) h
    refine bX9_moment_31 (pX9_fail (k := 2) (by decide) (by decide) (by decide)) ?_
    rintro _ _ ⟨rfl, rfl⟩
    refine bX9_moment_37 ?_
    refine bX9_moment_41 ?_
    refine hQ _ _ ?_
    unfold opMoment
    rw [if_neg (not_not_intro hc1), if_pos he1]
    exact Pc.er hI rfl (hR.kC hI hk) hk.K (by decide)
theorem pX9_moments {d : Nat} {im : XI} {bo : Bool} {s : Nat → Int32} {np nd : Nat} {v w : Int32} (hR : RI 0 s im) (hI : Iv s np nd) : SpI mX9_moments (d + 7) [.ref 0, .int v, .int w] (SC bo) im (fun x im' => Pc im (opMoments s v w) x im') := by
  refine SpI.of [some (.ref 0), some (.int v), some (.int w)] rfl (by decide) rfl (fun Q hQ => ?_)
  have bad : ¬ (okSet s v ∧ (0 ≤ w ∧ w ≤ 99)) → V mX9_moments (d + 7) (0, 0) 21 [some (.ref 0), some (.int v), some (.int w)] [] (SC bo) im Q := by
    intro h
    refine bX9_moments_21 (pX9_fail (k := 1) (by decide) (by decide) (by decide)) ?_
    rintro _ _ ⟨rfl, rfl⟩
    refine bX9_moments_27 ?_
    refine hQ _ _ ?_
    unfold opMoments
    rw [if_pos h]
    exact Pc.er hI rfl hR kK.rf (by decide)
  refine bX9_moments_0 (pX2_hasSet hR) ?_
  rintro x0 im1 ⟨hx, hm⟩
  subst hm
  refine bX9_moments_8 (fun c => ?_) (fun c => ?_)
  · rw [hx, b2i_z] at c
    exact bad (fun h => c h.1)
  rw [hx, b2i_nz] at c
  have g0 := c
  clear c
  clear hx
  refine bX9_moments_11 pX9_within ?_
  rintro x1 im1 ⟨hx, hm⟩
  subst hm
  refine bX9_moments_18 (fun c => ?_) (fun c => ?_)
  rotate_left
  · rw [hx, b2i_z] at c
    exact bad (fun h => c h.2)
  rw [hx, b2i_nz] at c
  have g1 := c
  clear c
  clear hx
  have hc1 : okSet s v ∧ (0 ≤ w ∧ w ≤ 99) := ⟨g0, g1⟩
  obtain ⟨j, hj, rfl⟩ := (in_c (x := w) (n := 99) rfl (by decide)).mp g1
  refine bX9_moments_28 (pX1_momentsAmong hR hI rfl (by omega)) ?_
  rintro _ im2 ⟨rfl, hk⟩
  refine bX9_moments_37 ?_
  refine hQ _ _ ?_
  unfold opMoments
  rw [if_neg (not_not_intro hc1), nnat_nI (n := j) (by omega)]
  exact Pc.ok rfl (hR.kC hI hk) hk.K
theorem pX9_away {d : Nat} {im : XI} {bo : Bool} {s : Nat → Int32} {np nd : Nat} {v n w : Int32} (hR : RI 0 s im) (hI : Iv s np nd) : SpI mX9_away (d + 7) [.ref 0, .int v, .int n, .int w] (SC bo) im (fun x im' => Pc im (opAway s v n w) x im') := by
  refine SpI.of [some (.ref 0), some (.int v), some (.int n), some (.int w), none] rfl (by decide) rfl (fun Q hQ => ?_)
  have hnp := hI.1.1
  have hnd := hI.2.1.1
  have bad : ¬ (okD s v ∧ (0 ≤ n ∧ n ≤ 99) ∧ (0 ≤ w ∧ w ≤ 1)) → V mX9_away (d + 7) (0, 0) 30 [some (.ref 0), some (.int v), some (.int n), some (.int w), none] [] (SC bo) im Q := by
    intro h
    refine bX9_away_30 (pX9_fail (k := 1) (by decide) (by decide) (by decide)) ?_
    rintro _ _ ⟨rfl, rfl⟩
    refine bX9_away_36 ?_
    refine hQ _ _ ?_
    unfold opAway
    rw [if_pos h]
    exact Pc.er hI rfl hR kK.rf (by decide)
  refine bX9_away_0 (pX2_hasDoing hR) ?_
  rintro x0 im1 ⟨hx, hm⟩
  subst hm
  refine bX9_away_8 (fun c => ?_) (fun c => ?_)
  · rw [hx, b2i_z] at c
    exact bad (fun h => c h.1)
  rw [hx, b2i_nz] at c
  have g0 := c
  clear c
  clear hx
  refine bX9_away_11 pX9_within ?_
  rintro x1 im1 ⟨hx, hm⟩
  subst hm
  refine bX9_away_18 (fun c => ?_) (fun c => ?_)
  · rw [hx, b2i_z] at c
    exact bad (fun h => c h.2.1)
  rw [hx, b2i_nz] at c
  have g1 := c
  clear c
  clear hx
  refine bX9_away_21 pX9_within ?_
  rintro x2 im1 ⟨hx, hm⟩
  subst hm
  refine bX9_away_27 (fun c => ?_) (fun c => ?_)
  rotate_left
  · rw [hx, b2i_z] at c
    exact bad (fun h => c h.2.2)
  rw [hx, b2i_nz] at c
  have g2 := c
  clear c
  clear hx
  have hc1 : okD s v ∧ (0 ≤ n ∧ n ≤ 99) ∧ (0 ≤ w ∧ w ≤ 1) := ⟨g0, g1, g2⟩
  obtain ⟨e, he, rfl⟩ := (in_n (n := nd) (by have := hI.2.1.1; omega)).mp (show 0 ≤ v ∧ v ≤ nI nd - 1 by rw [← hI.2.1.2.1]; exact g0)
  have hve : nnat (nI e) = e := nnat_nI (by have := hI.2.1.1; omega)
  obtain ⟨j, hj, rfl⟩ := (in_c (x := n) (n := 99) rfl (by decide)).mp g1
  have hjn : nnat (nI j) = j := nnat_nI (by omega)
  refine bX9_away_37 rfl (by omega) (pX1_fewestAway hR hI he rfl rfl hj) ?_
  rintro _ im2 ⟨rfl, hk⟩
  obtain ⟨wn, hwn, hwe⟩ := (hI.2.1.2.2 e he).2.2
  have hnat : away0 s e j = -1 ∨ ∃ q : Nat, q < 64 ∧ away0 s e j = nI q := by
    unfold away0
    rcases awayN_nat (w := s (34 + 3 * e)) (c := fun g => done0 s e (s (34 + 3 * e) &&& (g ^^^ (-1))) j) (nnat (s (34 + 3 * e)) + 1) with h | ⟨q, h1, h2⟩
    · exact Or.inl h
    · rw [hwe, nnat_nI (by omega)] at h1
      exact Or.inr ⟨q, by omega, h2⟩
  refine bX9_away_54 (fun h => ?_) (fun h => ?_)
  · have hne : ¬ away0 s e j = -1 := fun e => by rw [e] at h; exact absurd h (by decide)
    obtain ⟨q, hq, hqe⟩ := hnat.resolve_left hne
    have fin : ∀ z : Int32, z = (if w = 0 then many0 (away0 s e j) 6 else away0 s e j) → V mX9_away (d + 7) (0, 0) 82 [some (.ref 0), some (.int (nI e)), some (.int (nI j)), some (.int w), some (.int (away0 s e j))] [.int z] (SC bo) im2 Q := by
      intro z hz
      refine bX9_away_82 ?_
      refine hQ _ _ ?_
      unfold opAway
      rw [if_neg (not_not_intro hc1), hve, hjn, if_neg hne]
      exact Pc.ok hz (hR.kF hI hk) hk.K
    refine bX9_away_68 (fun c => ?_) (fun c => ?_)
    · refine bX9_away_80 ?_
      exact fin _ (if_neg c).symm
    · refine bX9_away_72 (pJ6_bitCount_0f7a4 hqe hq) ?_
      rintro _ _ ⟨rfl, rfl⟩
      refine bX9_away_77 ?_
      exact fin _ (if_pos c).symm
  · have he1 : away0 s e j = -1 := by
      rcases hnat with e | ⟨q, hq, e⟩
      · exact e
      · rw [e] at h; exact absurd (nI_pos' (by omega)) h
    refine bX9_away_61 (pX9_fail (k := 2) (by decide) (by decide) (by decide)) ?_
    rintro _ _ ⟨rfl, rfl⟩
    refine bX9_away_67 ?_
    refine hQ _ _ ?_
    unfold opAway
    rw [if_neg (not_not_intro hc1), hve, hjn, if_pos he1]
    exact Pc.er hI rfl (hR.kF hI hk) hk.K (by decide)
theorem pX9_phaseFor {d : Nat} {im : XI} {bo : Bool} {s : Nat → Int32} {np nd : Nat} {v z w : Int32} (hR : RI 0 s im) (hI : Iv s np nd) : SpI mX9_phaseFor (d + 7) [.ref 0, .int v, .int z, .int w] (SC bo) im (fun x im' => Pc im (opPhaseFor s v z w) x im') := by
  refine SpI.of [some (.ref 0), some (.int v), some (.int z), some (.int w)] rfl (by decide) rfl (fun Q hQ => ?_)
  have hnp := hI.1.1
  have hnd := hI.2.1.1
  have bad : ¬ (okP s v ∧ okD s z ∧ (0 ≤ w ∧ w ≤ 1)) → V mX9_phaseFor (d + 7) (0, 0) 31 [some (.ref 0), some (.int v), some (.int z), some (.int w)] [] (SC bo) im Q := by
    intro h
    refine bX9_phaseFor_31 (pX9_fail (k := 1) (by decide) (by decide) (by decide)) ?_
    rintro _ _ ⟨rfl, rfl⟩
    refine bX9_phaseFor_37 ?_
    refine hQ _ _ ?_
    unfold opPhaseFor
    rw [if_pos h]
    exact Pc.er hI rfl hR kK.rf (by decide)
  refine bX9_phaseFor_0 (pX2_hasPerson hR) ?_
  rintro x0 im1 ⟨hx, hm⟩
  subst hm
  refine bX9_phaseFor_8 (fun c => ?_) (fun c => ?_)
  · rw [hx, b2i_z] at c
    exact bad (fun h => c h.1)
  rw [hx, b2i_nz] at c
  have g0 := c
  clear c
  clear hx
  refine bX9_phaseFor_11 (pX2_hasDoing hR) ?_
  rintro x1 im1 ⟨hx, hm⟩
  subst hm
  refine bX9_phaseFor_19 (fun c => ?_) (fun c => ?_)
  · rw [hx, b2i_z] at c
    exact bad (fun h => c h.2.1)
  rw [hx, b2i_nz] at c
  have g1 := c
  clear c
  clear hx
  refine bX9_phaseFor_22 pX9_within ?_
  rintro x2 im1 ⟨hx, hm⟩
  subst hm
  refine bX9_phaseFor_28 (fun c => ?_) (fun c => ?_)
  rotate_left
  · rw [hx, b2i_z] at c
    exact bad (fun h => c h.2.2)
  rw [hx, b2i_nz] at c
  have g2 := c
  clear c
  clear hx
  have hc1 : okP s v ∧ okD s z ∧ (0 ≤ w ∧ w ≤ 1) := ⟨g0, g1, g2⟩
  obtain ⟨p, hp, rfl⟩ := (in_n (n := np) (by have := hI.1.1; omega)).mp (show 0 ≤ v ∧ v ≤ nI np - 1 by rw [← hI.1.2.1]; exact g0)
  have hvp : nnat (nI p) = p := nnat_nI (by have := hI.1.1; omega)
  obtain ⟨e, he, rfl⟩ := (in_n (n := nd) (by have := hI.2.1.1; omega)).mp (show 0 ≤ z ∧ z ≤ nI nd - 1 by rw [← hI.2.1.2.1]; exact g1)
  have hve : nnat (nI e) = e := nnat_nI (by have := hI.2.1.1; omega)
  refine bX9_phaseFor_38 rfl (by omega) (pX1_findPhase hR hI he rfl hp rfl) ?_
  rintro x im2 ⟨hx, hf, hk⟩
  refine bX9_phaseFor_55 (fun c => ?_) (fun c => ?_)
  rotate_left
  · rw [hx, b2i_z, Classical.not_not] at c
    refine bX9_phaseFor_58 (pX9_fail (k := 2) (by decide) (by decide) (by decide)) ?_
    rintro _ _ ⟨rfl, rfl⟩
    refine bX9_phaseFor_64 ?_
    refine hQ _ _ ?_
    unfold opPhaseFor
    rw [if_neg (not_not_intro hc1), hvp, hve, if_pos c]
    exact Pc.er hI rfl (hR.kF hI hk) hk.K (by decide)
  rw [hx, b2i_nz] at c
  obtain ⟨f1, f2⟩ := hf c
  have fin : ∀ y : Int32, y = (if w = 0 then (phase0 s p e).1 else (phase0 s p e).2) → V mX9_phaseFor (d + 7) (0, 0) 86 [some (.ref 0), some (.int (nI p)), some (.int (nI e)), some (.int w)] [.int y] (SC bo) im2 Q := by
    intro y hy
    refine bX9_phaseFor_86 ?_
    refine hQ _ _ ?_
    unfold opPhaseFor
    rw [if_neg (not_not_intro hc1), hvp, hve, if_neg c]
    exact Pc.ok hy (hR.kF hI hk) hk.K
  refine bX9_phaseFor_65 (fun c2 => ?_) (fun c2 => ?_)
  · refine bX9_phaseFor_79 ?_
    exact fin _ (by rw [if_neg c2, f2])
  · refine bX9_phaseFor_69 ?_
    exact fin _ (by rw [if_pos c2, f1])
theorem pX9_odds {d : Nat} {im : XI} {bo : Bool} {s : Nat → Int32} {np nd : Nat} {v n w : Int32} (hR : RI 0 s im) (hI : Iv s np nd) : SpI mX9_odds (d + 7) [.ref 0, .int v, .int n, .int w] (SC bo) im (fun x im' => Pc im (opOdds s v n w) x im') := by
  refine SpI.of [some (.ref 0), some (.int v), some (.int n), some (.int w), none, none, none] rfl (by decide) rfl (fun Q hQ => ?_)
  have bad : ¬ (okSet s v ∧ (1 ≤ n ∧ n ≤ 99) ∧ (0 ≤ w ∧ w ≤ 1)) → V mX9_odds (d + 7) (0, 0) 30 [some (.ref 0), some (.int v), some (.int n), some (.int w), none, none, none] [] (SC bo) im Q := by
    intro h
    refine bX9_odds_30 (pX9_fail (k := 1) (by decide) (by decide) (by decide)) ?_
    rintro _ _ ⟨rfl, rfl⟩
    refine bX9_odds_36 ?_
    refine hQ _ _ ?_
    unfold opOdds
    rw [if_pos h]
    exact Pc.er hI rfl hR kK.rf (by decide)
  refine bX9_odds_0 (pX2_hasSet hR) ?_
  rintro x0 im1 ⟨hx, hm⟩
  subst hm
  refine bX9_odds_8 (fun c => ?_) (fun c => ?_)
  · rw [hx, b2i_z] at c
    exact bad (fun h => c h.1)
  rw [hx, b2i_nz] at c
  have g0 := c
  clear c
  clear hx
  refine bX9_odds_11 pX9_within ?_
  rintro x1 im1 ⟨hx, hm⟩
  subst hm
  refine bX9_odds_18 (fun c => ?_) (fun c => ?_)
  · rw [hx, b2i_z] at c
    exact bad (fun h => c h.2.1)
  rw [hx, b2i_nz] at c
  have g1 := c
  clear c
  clear hx
  refine bX9_odds_21 pX9_within ?_
  rintro x2 im1 ⟨hx, hm⟩
  subst hm
  refine bX9_odds_27 (fun c => ?_) (fun c => ?_)
  rotate_left
  · rw [hx, b2i_z] at c
    exact bad (fun h => c h.2.2)
  rw [hx, b2i_nz] at c
  have g2 := c
  clear c
  clear hx
  have hc1 : okSet s v ∧ (1 ≤ n ∧ n ≤ 99) ∧ (0 ≤ w ∧ w ≤ 1) := ⟨g0, g1, g2⟩
  obtain ⟨j, hj1, hj, rfl⟩ := (in_ab (x := n) (a := 1) (n := 99) rfl rfl (by decide) (by decide)).mp g1
  have hjn : nnat (nI j) = j := nnat_nI (by omega)
  refine bX9_odds_37 (pX1_momentsAmong hR hI rfl (by omega)) ?_
  rintro _ im2 ⟨rfl, hk⟩
  obtain ⟨m, hm, hme⟩ := moms0_nat (s := s) (set := v) j
  refine bX9_odds_46 (pX9_commonDivisor rfl hme hj (by omega)) ?_
  rintro x im3 ⟨hx, hmm⟩
  subst hmm
  have hg0 : 0 < Nat.gcd m j := Nat.gcd_pos_of_pos_right m (by omega)
  have hgj : Nat.gcd m j ≤ j := Nat.gcd_le_right m (by omega)
  have hgcd : gcd0 (moms0 s v j) (nI j) = x := by
    unfold gcd0
    rw [hme, hjn, nnat_nI (by omega), hx]
  have fin : ∀ z : Int32, z = (if w = 0 then moms0 s v j else nI j) → V mX9_odds (d + 7) (0, 0) 66 [some (.ref 0), some (.int v), some (.int (nI j)), some (.int w), some (.int (moms0 s v j)), some (.int x), none] [.int z] (SC bo) im2 Q := by
    intro z hz
    have hxp : ¬ x ≤ 0 := by rw [hx, nI_le0 (by omega)]; omega
    refine bX9_odds_66 (fun c => absurd c hxp) (fun _ => ?_)
    refine bX9_odds_73 (fun e => hxp (by rw [e]; decide)) ?_
    refine bX9_odds_83 ?_
    refine hQ _ _ ?_
    unfold opOdds
    rw [if_neg (not_not_intro hc1), hjn, hgcd]
    refine Pc.ok ?_ (hR.kC hI hk) hk.K
    rw [hz]
    by_cases c : w = 0
    · rw [if_pos c, if_pos c]
    · rw [if_neg c, if_neg c]
  refine bX9_odds_54 (fun c => ?_) (fun c => ?_)
  · refine bX9_odds_65 ?_
    exact fin _ (if_neg c).symm
  · refine bX9_odds_60 ?_
    exact fin _ (if_pos c).symm

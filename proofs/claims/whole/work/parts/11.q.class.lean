theorem pX4_turnInto {d : Nat} {im : XI} {S : XS} {a : Nat} {km : Int32} (hK : S.1[a]? = some (.inl 4)) : SpV mX4_turnInto d [.ref a, .int km] S im (fun im' => im' = xup (xup im a 0 (km / 10)) a 1 (jrem km 10)) := by
  refine SpV.of [some (.ref a), some (.int km)] rfl (by decide) rfl (fun Q hQ => ?_)
  refine bX4_turnInto_0 hK ?_
  exact hQ _ rfl
theorem pX9_person {d : Nat} {im : XI} {bo : Bool} {s : Nat → Int32} {np nd : Nat} {km b f : Int32} (hR : RI 0 s im) (hI : Iv s np nd) : SpI mX9_person (d + 2) [.ref 0, .int km, .int b, .int f] (SC bo) im (fun x im' => Pc im (opPerson s km b f) x im') := by
  refine SpI.of [some (.ref 0), some (.int km), some (.int b), some (.int f), none, none] rfl (by decide) rfl (fun Q hQ => ?_)
  have hnp := hI.1.1
  have hnd := hI.2.1.1
  have bad : ¬ (okKm km ∧ okBt b f) → V mX9_person (d + 2) (0, 0) 15 [some (.ref 0), some (.int km), some (.int b), some (.int f), none, none] [] (SC bo) im Q := by
    intro h
    refine bX9_person_15 (pX9_fail (k := 1) (by decide) (by decide) (by decide)) ?_
    rintro _ _ ⟨rfl, rfl⟩
    refine bX9_person_21 ?_
    refine hQ _ _ ?_
    unfold opPerson
    rw [if_pos h]
    exact Pc.er hI rfl hR kK.rf (by decide)
  refine bX9_person_0 pX9_isKindAndNumber ?_
  rintro x0 im1 ⟨hx, hm⟩
  subst hm
  refine bX9_person_4 (fun c => ?_) (fun c => ?_)
  · rw [hx, b2i_z] at c
    exact bad (fun h => c h.1)
  rw [hx, b2i_nz] at c
  have g0 := c
  clear c
  clear hx
  refine bX9_person_7 pX9_isBeatAndPhase ?_
  rintro x1 im1 ⟨hx, hm⟩
  subst hm
  refine bX9_person_12 (fun c => ?_) (fun c => ?_)
  rotate_left
  · rw [hx, b2i_z] at c
    exact bad (fun h => c h.2)
  rw [hx, b2i_nz] at c
  have g1 := c
  clear c
  clear hx
  have hc1 : okKm km ∧ okBt b f := ⟨g0, g1⟩
  have e6 := hR.np hI
  refine bX9_person_22 (fun c => ?_) (fun c => ?_)
  rotate_left
  · rw [e6] at c
    have h6 : np = 6 := by
      have h7 : ¬ np < 6 := fun h => c ((nI_ltI (a := np) (b := 6) (by omega) (by omega)).mpr h)
      omega
    refine bX9_person_34 (pX9_fail (k := 4) (by decide) (by decide) (by decide)) ?_
    rintro _ _ ⟨rfl, rfl⟩
    refine bX9_person_40 ?_
    refine hQ _ _ ?_
    unfold opPerson
    rw [if_neg (not_not_intro hc1), if_pos (by rw [hI.1.2.1, h6]; rfl)]
    exact Pc.er hI rfl hR kK.rf (by decide)
  rw [e6] at c
  have h6 : np < 6 := (nI_ltI (a := np) (b := 6) (by omega) (by omega)).mp c
  refine bX9_person_41 e6 h6 (pX4_turnInto (xperson h6)) ?_
  rintro _ rfl
  refine bX9_person_68 (xperson h6) ?_
  refine hQ _ _ ?_
  unfold opPerson
  rw [if_neg (not_not_intro hc1), if_neg (by rw [hI.1.2.1]; exact fun h => by have := (nI_eq (b := 6) (by omega) (by omega)).mp h; omega), nnp hI]
  have hn := hR.plusP (km := km) (b := b) (f := f) hI h6
  refine Pc.ok (by rw [e6, hI.1.2.1]) ?_ ?_
  · rw [show (xup (xup (xup (xup im (16 + np) 0 (km / 10)) (16 + np) 1 (jrem km 10)) (16 + np) 2 b) (16 + np) 3 f) 1 6 = s 4 by rw [xup_o (by omega), xup_o (by omega), xup_o (by omega), xup_o (by omega)]; exact hR.1.1]
    exact hn
  · exact ((((kK.rf.up (by omega)).up (by omega)).up (by omega)).up (by omega)).up (by omega)
theorem pX9_personIs {d : Nat} {im : XI} {bo : Bool} {s : Nat → Int32} {np nd : Nat} {v w : Int32} (hR : RI 0 s im) (hI : Iv s np nd) : SpI mX9_personIs (d + 5) [.ref 0, .int v, .int w] (SC bo) im (fun x im' => Pc im (opPersonIs s v w) x im') := by
  refine SpI.of [some (.ref 0), some (.int v), some (.int w), none] rfl (by decide) rfl (fun Q hQ => ?_)
  have hnp := hI.1.1
  have hnd := hI.2.1.1
  have bad : ¬ (okP s v ∧ (0 ≤ w ∧ w ≤ 4)) → V mX9_personIs (d + 5) (0, 0) 20 [some (.ref 0), some (.int v), some (.int w), none] [] (SC bo) im Q := by
    intro h
    refine bX9_personIs_20 (pX9_fail (k := 1) (by decide) (by decide) (by decide)) ?_
    rintro _ _ ⟨rfl, rfl⟩
    refine bX9_personIs_26 ?_
    refine hQ _ _ ?_
    unfold opPersonIs
    rw [if_pos h]
    exact Pc.er hI rfl hR kK.rf (by decide)
  refine bX9_personIs_0 (pX2_hasPerson hR) ?_
  rintro x0 im1 ⟨hx, hm⟩
  subst hm
  refine bX9_personIs_8 (fun c => ?_) (fun c => ?_)
  · rw [hx, b2i_z] at c
    exact bad (fun h => c h.1)
  rw [hx, b2i_nz] at c
  have g0 := c
  clear c
  clear hx
  refine bX9_personIs_11 pX9_within ?_
  rintro x1 im1 ⟨hx, hm⟩
  subst hm
  refine bX9_personIs_17 (fun c => ?_) (fun c => ?_)
  rotate_left
  · rw [hx, b2i_z] at c
    exact bad (fun h => c h.2)
  rw [hx, b2i_nz] at c
  have g1 := c
  clear c
  clear hx
  have hc1 : okP s v ∧ (0 ≤ w ∧ w ≤ 4) := ⟨g0, g1⟩
  obtain ⟨p, hp, rfl⟩ := (in_n (n := np) (by have := hI.1.1; omega)).mp (show 0 ≤ v ∧ v ≤ nI np - 1 by rw [← hI.1.2.1]; exact g0)
  have hvp : nnat (nI p) = p := nnat_nI (by have := hI.1.1; omega)
  obtain ⟨p0, p1, p2, p3⟩ := hR.per hI hp
  have hx : ∀ (x : Int32) (im' : XI), x = (if w < 4 then s (8 + nnat w + 4 * p) else shut0 s p) → kC im im' → Q (some (.int x)) (SC bo) im' := by
    intro x im' h hk
    refine hQ _ _ ?_
    unfold opPersonIs
    rw [if_neg (not_not_intro hc1), hvp]
    exact Pc.ok h (hR.kC hI hk) hk.K
  refine bX9_personIs_27 rfl (by omega) (fun h => ?_) (fun h => ?_) (fun h => ?_) (fun h => ?_) (fun h0 h1 h2 h3 => ?_)
  · refine bX9_personIs_68 (xperson (by omega)) ?_
    refine hx _ _ ?_ kC.rf
    rw [h, if_pos (by decide), p0, show nnat 0 = 0 from rfl]
  · refine bX9_personIs_73 (xperson (by omega)) ?_
    refine hx _ _ ?_ kC.rf
    rw [h, if_pos (by decide), p1, show nnat 1 = 1 from rfl]
  · refine bX9_personIs_78 (xperson (by omega)) ?_
    refine hx _ _ ?_ kC.rf
    rw [h, if_pos (by decide), p2, show nnat 2 = 2 from rfl]
  · refine bX9_personIs_83 (xperson (by omega)) ?_
    refine hx _ _ ?_ kC.rf
    rw [h, if_pos (by decide), p3, show nnat 3 = 3 from rfl]
  · have hw4 : w = 4 := by
      obtain ⟨j, hj, rfl⟩ := (in_c (x := w) (n := 4) rfl (by decide)).mp g1
      match j, hj with
      | 0, _ => exact absurd rfl h0
      | 1, _ => exact absurd rfl h1
      | 2, _ => exact absurd rfl h2
      | 3, _ => exact absurd rfl h3
      | 4, _ => rfl
    refine bX9_personIs_88 (pX2_isShut hR hI rfl hp) ?_
    rintro _ im2 ⟨rfl, hk⟩
    rw [nowW hR]
    have hs0 : shut0 s p = shutT s (s 0) p := rfl
    refine bX9_personIs_103 (fun c => ?_) (fun c => ?_)
    · refine bX9_personIs_110 ?_
      refine bX9_personIs_111 ?_
      exact hx _ _ (by rw [hw4, if_neg (by decide), hs0, c]) hk
    · refine bX9_personIs_106 ?_
      refine bX9_personIs_111 ?_
      exact hx _ _ (by rw [hw4, if_neg (by decide), hs0, (shutT_01 s (s 0) p).resolve_left c]) hk
theorem pX9_become {d : Nat} {im : XI} {bo : Bool} {s : Nat → Int32} {np nd : Nat} {v km : Int32} (hR : RI 0 s im) (hI : Iv s np nd) : SpI mX9_become (d + 2) [.ref 0, .int v, .int km] (SC bo) im (fun x im' => Pc im (opBecome s v km) x im') := by
  refine SpI.of [some (.ref 0), some (.int v), some (.int km), none, none] rfl (by decide) rfl (fun Q hQ => ?_)
  have hnp := hI.1.1
  have hnd := hI.2.1.1
  have bad : ¬ (okP s v ∧ okKm km) → V mX9_become (d + 2) (0, 0) 18 [some (.ref 0), some (.int v), some (.int km), none, none] [] (SC bo) im Q := by
    intro h
    refine bX9_become_18 (pX9_fail (k := 1) (by decide) (by decide) (by decide)) ?_
    rintro _ _ ⟨rfl, rfl⟩
    refine bX9_become_24 ?_
    refine hQ _ _ ?_
    unfold opBecome
    rw [if_pos h]
    exact Pc.er hI rfl hR kK.rf (by decide)
  refine bX9_become_0 (pX2_hasPerson hR) ?_
  rintro x0 im1 ⟨hx, hm⟩
  subst hm
  refine bX9_become_8 (fun c => ?_) (fun c => ?_)
  · rw [hx, b2i_z] at c
    exact bad (fun h => c h.1)
  rw [hx, b2i_nz] at c
  have g0 := c
  clear c
  clear hx
  refine bX9_become_11 pX9_isKindAndNumber ?_
  rintro x1 im1 ⟨hx, hm⟩
  subst hm
  refine bX9_become_15 (fun c => ?_) (fun c => ?_)
  rotate_left
  · rw [hx, b2i_z] at c
    exact bad (fun h => c h.2)
  rw [hx, b2i_nz] at c
  have g1 := c
  clear c
  clear hx
  have hc1 : okP s v ∧ okKm km := ⟨g0, g1⟩
  obtain ⟨p, hp, rfl⟩ := (in_n (n := np) (by have := hI.1.1; omega)).mp (show 0 ≤ v ∧ v ≤ nI np - 1 by rw [← hI.1.2.1]; exact g0)
  have hvp : nnat (nI p) = p := nnat_nI (by have := hI.1.1; omega)
  obtain ⟨p0, p1, p2, p3⟩ := hR.per hI hp
  refine bX9_become_25 rfl (by omega) (pX4_turnInto (xperson (by omega))) ?_
  rintro _ rfl
  refine bX9_become_46 ?_
  refine hQ _ _ ?_
  unfold opBecome
  rw [if_neg (not_not_intro hc1), hvp]
  obtain ⟨k, hk7, hke⟩ : ∃ k : Nat, k < 7 ∧ km / 10 = nI k := by
    obtain ⟨j, hj, rfl⟩ := (in_c (x := km) (n := 69) rfl (by decide)).mp g1
    exact ⟨j / 10, by omega, pk_div (d := 10) (by omega) (by omega) (by omega)⟩
  refine Pc.ok p0 ?_ ((kK.rf.up (by omega)).up (by omega))
  have h1 := hR.set (j := 9 + 4 * p) (a := 16 + p) (i := 1) (v := jrem km 10) hI (Or.inr (Or.inr (Or.inl ⟨p, 1, by omega, by omega, by omega, rfl, rfl⟩)))
  have hI1 : Iv (upd s (9 + 4 * p) (jrem km 10)) np nd := Iv_free hI (Or.inr (Or.inr (Or.inl ⟨p, by omega, Or.inl rfl⟩)))
  have h2 := h1.set (j := 8 + 4 * p) (a := 16 + p) (i := 0) (v := km / 10) hI1 (Or.inr (Or.inr (Or.inl ⟨p, 0, by omega, by omega, by omega, rfl, rfl⟩)))
  rw [show xup (xup im (16 + p) 0 (km / 10)) (16 + p) 1 (jrem km 10) = xup (xup im (16 + p) 1 (jrem km 10)) (16 + p) 0 (km / 10) by
    funext a i
    simp only [xup]
    by_cases c : a = 16 + p ∧ i = 1
    · rw [if_pos c, if_neg (by omega), if_pos c]
    · rw [if_neg c, if_neg c]]
  exact h2
theorem pX9_as {d : Nat} {im : XI} {bo : Bool} {s : Nat → Int32} {np nd : Nat} {v w : Int32} (hR : RI 0 s im) (hI : Iv s np nd) : SpI mX9_as (d + 2) [.ref 0, .int v, .int w] (SC bo) im (fun x im' => Pc im (opAs s v w) x im') := by
  refine SpI.of [some (.ref 0), some (.int v), some (.int w), none] rfl (by decide) rfl (fun Q hQ => ?_)
  have hnp := hI.1.1
  have hnd := hI.2.1.1
  have bad : ¬ (okP s v ∧ (0 ≤ w ∧ w ≤ 6)) → V mX9_as (d + 2) (0, 0) 21 [some (.ref 0), some (.int v), some (.int w), none] [] (SC bo) im Q := by
    intro h
    refine bX9_as_21 (pX9_fail (k := 1) (by decide) (by decide) (by decide)) ?_
    rintro _ _ ⟨rfl, rfl⟩
    refine bX9_as_27 ?_
    refine hQ _ _ ?_
    unfold opAs
    rw [if_pos h]
    exact Pc.er hI rfl hR kK.rf (by decide)
  refine bX9_as_0 (pX2_hasPerson hR) ?_
  rintro x0 im1 ⟨hx, hm⟩
  subst hm
  refine bX9_as_8 (fun c => ?_) (fun c => ?_)
  · rw [hx, b2i_z] at c
    exact bad (fun h => c h.1)
  rw [hx, b2i_nz] at c
  have g0 := c
  clear c
  clear hx
  refine bX9_as_11 pX9_within ?_
  rintro x1 im1 ⟨hx, hm⟩
  subst hm
  refine bX9_as_18 (fun c => ?_) (fun c => ?_)
  rotate_left
  · rw [hx, b2i_z] at c
    exact bad (fun h => c h.2)
  rw [hx, b2i_nz] at c
  have g1 := c
  clear c
  clear hx
  have hc1 : okP s v ∧ (0 ≤ w ∧ w ≤ 6) := ⟨g0, g1⟩
  obtain ⟨p, hp, rfl⟩ := (in_n (n := np) (by have := hI.1.1; omega)).mp (show 0 ≤ v ∧ v ≤ nI np - 1 by rw [← hI.1.2.1]; exact g0)
  have hvp : nnat (nI p) = p := nnat_nI (by have := hI.1.1; omega)
  obtain ⟨p0, p1, p2, p3⟩ := hR.per hI hp
  obtain ⟨k, hk7, hke⟩ := (hI.1.2.2 p hp).1
  refine bX9_as_28 rfl (by omega) (by rw [p0, hke]; exact pX9_isUnder hk7 g1.1) ?_
  rintro x im1 ⟨hx, hm⟩
  subst hm
  refine bX9_as_46 (fun c => ?_) (fun c => ?_)
  rotate_left
  · rw [hx, b2i_z] at c
    refine bX9_as_49 (pX9_fail (k := 5) (by decide) (by decide) (by decide)) ?_
    rintro _ _ ⟨rfl, rfl⟩
    refine bX9_as_55 ?_
    refine hQ _ _ ?_
    unfold opAs
    rw [if_neg (not_not_intro hc1), hvp, if_neg (by rw [hke]; exact c)]
    exact Pc.er hI rfl hR kK.rf (by decide)
  rw [hx, b2i_nz] at c
  refine bX9_as_56 (xperson (by omega)) ?_
  refine hQ _ _ ?_
  unfold opAs
  rw [if_neg (not_not_intro hc1), hvp, if_pos (by rw [hke]; exact c), p1]
  exact Pc.ok rfl hR kK.rf
theorem pX9_beats {d : Nat} {im : XI} {bo : Bool} {s : Nat → Int32} {np nd : Nat} {v b f : Int32} (hR : RI 0 s im) (hI : Iv s np nd) : SpI mX9_beats (d + 2) [.ref 0, .int v, .int b, .int f] (SC bo) im (fun x im' => Pc im (opBeats s v b f) x im') := by
  refine SpI.of [some (.ref 0), some (.int v), some (.int b), some (.int f), none, none] rfl (by decide) rfl (fun Q hQ => ?_)
  have hnp := hI.1.1
  have hnd := hI.2.1.1
  have bad : ¬ (okP s v ∧ okBt b f) → V mX9_beats (d + 2) (0, 0) 19 [some (.ref 0), some (.int v), some (.int b), some (.int f), none, none] [] (SC bo) im Q := by
    intro h
    refine bX9_beats_19 (pX9_fail (k := 1) (by decide) (by decide) (by decide)) ?_
    rintro _ _ ⟨rfl, rfl⟩
    refine bX9_beats_25 ?_
    refine hQ _ _ ?_
    unfold opBeats
    rw [if_pos h]
    exact Pc.er hI rfl hR kK.rf (by decide)
  refine bX9_beats_0 (pX2_hasPerson hR) ?_
  rintro x0 im1 ⟨hx, hm⟩
  subst hm
  refine bX9_beats_8 (fun c => ?_) (fun c => ?_)
  · rw [hx, b2i_z] at c
    exact bad (fun h => c h.1)
  rw [hx, b2i_nz] at c
  have g0 := c
  clear c
  clear hx
  refine bX9_beats_11 pX9_isBeatAndPhase ?_
  rintro x1 im1 ⟨hx, hm⟩
  subst hm
  refine bX9_beats_16 (fun c => ?_) (fun c => ?_)
  rotate_left
  · rw [hx, b2i_z] at c
    exact bad (fun h => c h.2)
  rw [hx, b2i_nz] at c
  have g1 := c
  clear c
  clear hx
  have hc1 : okP s v ∧ okBt b f := ⟨g0, g1⟩
  obtain ⟨p, hp, rfl⟩ := (in_n (n := np) (by have := hI.1.1; omega)).mp (show 0 ≤ v ∧ v ≤ nI np - 1 by rw [← hI.1.2.1]; exact g0)
  have hvp : nnat (nI p) = p := nnat_nI (by have := hI.1.1; omega)
  obtain ⟨p0, p1, p2, p3⟩ := hR.per hI hp
  refine bX9_beats_26 rfl (by omega) ?_
  refine hQ _ _ ?_
  unfold opBeats
  rw [if_neg (not_not_intro hc1), hvp]
  refine Pc.ok p2 ?_ ((kK.rf.up (by omega)).up (by omega))
  have h1 := hR.set (j := 11 + 4 * p) (a := 16 + p) (i := 3) (v := f) hI (Or.inr (Or.inr (Or.inl ⟨p, 3, by omega, by omega, by omega, rfl, rfl⟩)))
  have hI1 : Iv (upd s (11 + 4 * p) f) np nd := Iv_free hI (Or.inr (Or.inr (Or.inl ⟨p, by omega, Or.inr rfl⟩)))
  have h2 := h1.set (j := 10 + 4 * p) (a := 16 + p) (i := 2) (v := b) hI1 (Or.inr (Or.inr (Or.inl ⟨p, 2, by omega, by omega, by omega, rfl, rfl⟩)))
  rw [show xup (xup im (16 + p) 2 b) (16 + p) 3 f = xup (xup im (16 + p) 3 f) (16 + p) 2 b by
    funext a i
    simp only [xup]
    by_cases c : a = 16 + p ∧ i = 3
    · rw [if_pos c, if_neg (by omega), if_pos c]
    · rw [if_neg c, if_neg c]]
  exact h2
theorem pX9_doing {d : Nat} {im : XI} {bo : Bool} {s : Nat → Int32} {np nd : Nat} {v q w : Int32} (hR : RI 0 s im) (hI : Iv s np nd) : SpI mX9_doing (d + 2) [.ref 0, .int v, .int q, .int w] (SC bo) im (fun x im' => Pc im (opDoing s v q w) x im') := by
  refine SpI.of [some (.ref 0), some (.int v), some (.int q), some (.int w), none, none] rfl (by decide) rfl (fun Q hQ => ?_)
  have hnp := hI.1.1
  have hnd := hI.2.1.1
  have bad : ¬ (okP s v ∧ (0 ≤ q ∧ q ≤ 99) ∧ okSet s w ∧ ¬ ((w >>> (v &&& 31)) &&& 1) = 1) → V mX9_doing (d + 2) (0, 0) 37 [some (.ref 0), some (.int v), some (.int q), some (.int w), none, none] [] (SC bo) im Q := by
    intro h
    refine bX9_doing_37 (pX9_fail (k := 1) (by decide) (by decide) (by decide)) ?_
    rintro _ _ ⟨rfl, rfl⟩
    refine bX9_doing_43 ?_
    refine hQ _ _ ?_
    unfold opDoing
    rw [if_pos h]
    exact Pc.er hI rfl hR kK.rf (by decide)
  refine bX9_doing_0 (pX2_hasPerson hR) ?_
  rintro x0 im1 ⟨hx, hm⟩
  subst hm
  refine bX9_doing_8 (fun c => ?_) (fun c => ?_)
  · rw [hx, b2i_z] at c
    exact bad (fun h => c h.1)
  rw [hx, b2i_nz] at c
  have g0 := c
  clear c
  clear hx
  refine bX9_doing_11 pX9_isParts ?_
  rintro x1 im1 ⟨hx, hm⟩
  subst hm
  refine bX9_doing_15 (fun c => ?_) (fun c => ?_)
  · rw [hx, b2i_z] at c
    exact bad (fun h => c h.2.1)
  rw [hx, b2i_nz] at c
  have g1 := c
  clear c
  clear hx
  refine bX9_doing_18 (pX2_hasSet hR) ?_
  rintro x2 im1 ⟨hx, hm⟩
  subst hm
  refine bX9_doing_26 (fun c => ?_) (fun c => ?_)
  · rw [hx, b2i_z] at c
    exact bad (fun h => c h.2.2.1)
  rw [hx, b2i_nz] at c
  have g2 := c
  clear c
  clear hx
  refine bX9_doing_29 pX9_holds ?_
  rintro x im1 ⟨hx, hm⟩
  subst hm
  refine bX9_doing_34 (fun c => ?_) (fun c => ?_)
  rotate_left
  · rw [hx, b2i_nz] at c
    exact bad (fun h => h.2.2.2 c)
  rw [hx, b2i_z] at c
  have hc1 : okP s v ∧ (0 ≤ q ∧ q ≤ 99) ∧ okSet s w ∧ ¬ ((w >>> (v &&& 31)) &&& 1) = 1 := ⟨g0, g1, g2, c⟩
  have e7 := hR.nd hI
  refine bX9_doing_44 (fun c => ?_) (fun c => ?_)
  rotate_left
  · rw [e7] at c
    have h6 : nd = 6 := by
      have h7 : ¬ nd < 6 := fun h => c ((nI_ltI (a := nd) (b := 6) (by omega) (by omega)).mpr h)
      omega
    refine bX9_doing_56 (pX9_fail (k := 4) (by decide) (by decide) (by decide)) ?_
    rintro _ _ ⟨rfl, rfl⟩
    refine bX9_doing_62 ?_
    refine hQ _ _ ?_
    unfold opDoing
    rw [if_neg (not_not_intro hc1), if_pos (by rw [hI.2.1.2.1, h6]; rfl)]
    exact Pc.er hI rfl hR kK.rf (by decide)
  rw [e7] at c
  have h6 : nd < 6 := (nI_ltI (a := nd) (b := 6) (by omega) (by omega)).mp c
  refine bX9_doing_63 e7 h6 ?_
  refine hQ _ _ ?_
  unfold opDoing
  rw [if_neg (not_not_intro hc1), if_neg (by rw [hI.2.1.2.1]; exact fun h => by have := (nI_eq (b := 6) (by omega) (by omega)).mp h; omega), nnd hI]
  refine Pc.ok (by rw [e7, hI.2.1.2.1]) ?_ ?_
  · rw [show (xup (xup (xup im (22 + nd) 0 v) (22 + nd) 1 q) (22 + nd) 2 w) 1 7 = s 5 by rw [xup_o (by omega), xup_o (by omega), xup_o (by omega)]; exact hR.1.2.1]
    exact hR.plusD hI h6
  · exact (((kK.rf.up (by omega)).up (by omega)).up (by omega)).up (by omega)
theorem pX9_doingIs {d : Nat} {im : XI} {bo : Bool} {s : Nat → Int32} {np nd : Nat} {v w : Int32} (hR : RI 0 s im) (hI : Iv s np nd) : SpI mX9_doingIs (d + 5) [.ref 0, .int v, .int w] (SC bo) im (fun x im' => Pc im (opDoingIs s v w) x im') := by
  refine SpI.of [some (.ref 0), some (.int v), some (.int w), none] rfl (by decide) rfl (fun Q hQ => ?_)
  have hnp := hI.1.1
  have hnd := hI.2.1.1
  have bad : ¬ (okD s v ∧ (0 ≤ w ∧ w ≤ 3)) → V mX9_doingIs (d + 5) (0, 0) 20 [some (.ref 0), some (.int v), some (.int w), none] [] (SC bo) im Q := by
    intro h
    refine bX9_doingIs_20 (pX9_fail (k := 1) (by decide) (by decide) (by decide)) ?_
    rintro _ _ ⟨rfl, rfl⟩
    refine bX9_doingIs_26 ?_
    refine hQ _ _ ?_
    unfold opDoingIs
    rw [if_pos h]
    exact Pc.er hI rfl hR kK.rf (by decide)
  refine bX9_doingIs_0 (pX2_hasDoing hR) ?_
  rintro x0 im1 ⟨hx, hm⟩
  subst hm
  refine bX9_doingIs_8 (fun c => ?_) (fun c => ?_)
  · rw [hx, b2i_z] at c
    exact bad (fun h => c h.1)
  rw [hx, b2i_nz] at c
  have g0 := c
  clear c
  clear hx
  refine bX9_doingIs_11 pX9_within ?_
  rintro x1 im1 ⟨hx, hm⟩
  subst hm
  refine bX9_doingIs_17 (fun c => ?_) (fun c => ?_)
  rotate_left
  · rw [hx, b2i_z] at c
    exact bad (fun h => c h.2)
  rw [hx, b2i_nz] at c
  have g1 := c
  clear c
  clear hx
  have hc1 : okD s v ∧ (0 ≤ w ∧ w ≤ 3) := ⟨g0, g1⟩
  obtain ⟨e, he, rfl⟩ := (in_n (n := nd) (by have := hI.2.1.1; omega)).mp (show 0 ≤ v ∧ v ≤ nI nd - 1 by rw [← hI.2.1.2.1]; exact g0)
  have hve : nnat (nI e) = e := nnat_nI (by have := hI.2.1.1; omega)
  obtain ⟨p0, p1, p2⟩ := hR.doi hI he
  have hx : ∀ (x : Int32) (im' : XI), x = (if w < 3 then s (32 + nnat w + 3 * e) else onBy0 s e (shutAll s)) → kC im im' → Q (some (.int x)) (SC bo) im' := by
    intro x im' h hk
    refine hQ _ _ ?_
    unfold opDoingIs
    rw [if_neg (not_not_intro hc1), hve]
    exact Pc.ok h (hR.kC hI hk) hk.K
  refine bX9_doingIs_27 rfl (by omega) (fun h => ?_) (fun h => ?_) (fun h => ?_) (fun h0 h1 h2 => ?_)
  · refine bX9_doingIs_64 (xdoing (by omega)) ?_
    refine hx _ _ ?_ kC.rf
    rw [h, if_pos (by decide), p0, show nnat 0 = 0 from rfl]
  · refine bX9_doingIs_69 (xdoing (by omega)) ?_
    refine hx _ _ ?_ kC.rf
    rw [h, if_pos (by decide), p1, show nnat 1 = 1 from rfl]
  · refine bX9_doingIs_74 (xdoing (by omega)) ?_
    refine hx _ _ ?_ kC.rf
    rw [h, if_pos (by decide), p2, show nnat 2 = 2 from rfl]
  · have hw3 : w = 3 := by
      obtain ⟨j, hj, rfl⟩ := (in_c (x := w) (n := 3) rfl (by decide)).mp g1
      match j, hj with
      | 0, _ => exact absurd rfl h0
      | 1, _ => exact absurd rfl h1
      | 2, _ => exact absurd rfl h2
      | 3, _ => rfl
    refine bX9_doingIs_79 (xdoing (by omega)) (pX2_shutSet hR hI) ?_
    rintro _ im2 ⟨rfl, hk⟩
    rw [nowW hR, p1]
    obtain ⟨m, hm, hme⟩ := allT_nat (s 0) hI
    refine bX9_doingIs_102 (by cases bo <;> rfl) (pX2_getsOnBy (hR.kC hI hk) hI rfl he hme hm) ?_
    rintro _ im3 ⟨rfl, hk2⟩
    refine bX9_doingIs_105 ?_
    refine hx _ _ ?_ (hk.tr hk2)
    rw [hw3, if_neg (by decide), shutAll_T]
    rfl
theorem pX9_sets {d : Nat} {im : XI} {bo : Bool} {s : Nat → Int32} {np nd : Nat} {v q : Int32} (hR : RI 0 s im) (hI : Iv s np nd) : SpI mX9_sets (d + 2) [.ref 0, .int v, .int q] (SC bo) im (fun x im' => Pc im (opSets s v q) x im') := by
  refine SpI.of [some (.ref 0), some (.int v), some (.int q), none, none] rfl (by decide) rfl (fun Q hQ => ?_)
  have hnp := hI.1.1
  have hnd := hI.2.1.1
  have bad : ¬ (okD s v ∧ (0 ≤ q ∧ q ≤ 99)) → V mX9_sets (d + 2) (0, 0) 18 [some (.ref 0), some (.int v), some (.int q), none, none] [] (SC bo) im Q := by
    intro h
    refine bX9_sets_18 (pX9_fail (k := 1) (by decide) (by decide) (by decide)) ?_
    rintro _ _ ⟨rfl, rfl⟩
    refine bX9_sets_24 ?_
    refine hQ _ _ ?_
    unfold opSets
    rw [if_pos h]
    exact Pc.er hI rfl hR kK.rf (by decide)
  refine bX9_sets_0 (pX2_hasDoing hR) ?_
  rintro x0 im1 ⟨hx, hm⟩
  subst hm
  refine bX9_sets_8 (fun c => ?_) (fun c => ?_)
  · rw [hx, b2i_z] at c
    exact bad (fun h => c h.1)
  rw [hx, b2i_nz] at c
  have g0 := c
  clear c
  clear hx
  refine bX9_sets_11 pX9_isParts ?_
  rintro x1 im1 ⟨hx, hm⟩
  subst hm
  refine bX9_sets_15 (fun c => ?_) (fun c => ?_)
  rotate_left
  · rw [hx, b2i_z] at c
    exact bad (fun h => c h.2)
  rw [hx, b2i_nz] at c
  have g1 := c
  clear c
  clear hx
  have hc1 : okD s v ∧ (0 ≤ q ∧ q ≤ 99) := ⟨g0, g1⟩
  obtain ⟨e, he, rfl⟩ := (in_n (n := nd) (by have := hI.2.1.1; omega)).mp (show 0 ≤ v ∧ v ≤ nI nd - 1 by rw [← hI.2.1.2.1]; exact g0)
  have hve : nnat (nI e) = e := nnat_nI (by have := hI.2.1.1; omega)
  refine bX9_sets_25 rfl (by omega) ?_
  refine hQ _ _ ?_
  unfold opSets
  rw [if_neg (not_not_intro hc1), hve]
  exact Pc.ok (doW hI hR he).1 (hR.set hI (Or.inr (Or.inr (Or.inr ⟨e, 1, by omega, by omega, by omega, rfl, rfl⟩)))) (kK.rf.up (by omega))
theorem pX9_shut {d : Nat} {im : XI} {bo : Bool} {s : Nat → Int32} {np nd : Nat}  (hR : RI 0 s im) (hI : Iv s np nd) : SpI mX9_shut (d + 5) [.ref 0] (SC bo) im (fun x im' => Pc im (opShut s ) x im') := by
  refine SpI.of [some (.ref 0)] rfl (by decide) rfl (fun Q hQ => ?_)
  refine bX9_shut_0 (pX2_shutSet hR hI) ?_
  rintro _ im2 ⟨rfl, hk⟩
  refine bX9_shut_14 ?_
  rw [nowW hR, ← shutAll_T]
  exact hQ _ _ (Pc.ok rfl (hR.kC hI hk) hk.K)
theorem pX9_tick {d : Nat} {im : XI} {bo : Bool} {s : Nat → Int32} {np nd : Nat} {v : Int32} (hR : RI 0 s im) (hI : Iv s np nd) : SpI mX9_tick (d + 2) [.ref 0, .int v] (SC bo) im (fun x im' => Pc im (opTick s v) x im') := by
  refine SpI.of [some (.ref 0), some (.int v), none] rfl (by decide) rfl (fun Q hQ => ?_)
  have bad : ¬ (0 ≤ v ∧ v ≤ 99999) → V mX9_tick (d + 2) (0, 0) 10 [some (.ref 0), some (.int v), none] [] (SC bo) im Q := by
    intro h
    refine bX9_tick_10 (pX9_fail (k := 1) (by decide) (by decide) (by decide)) ?_
    rintro _ _ ⟨rfl, rfl⟩
    refine bX9_tick_16 ?_
    refine hQ _ _ ?_
    unfold opTick
    rw [if_pos h]
    exact Pc.er hI rfl hR kK.rf (by decide)
  refine bX9_tick_0 pX9_within ?_
  rintro x0 im1 ⟨hx, hm⟩
  subst hm
  refine bX9_tick_7 (fun c => ?_) (fun c => ?_)
  rotate_left
  · rw [hx, b2i_z] at c
    exact bad (fun h => c h)
  rw [hx, b2i_nz] at c
  have g0 := c
  clear c
  clear hx
  refine bX9_tick_17 ?_
  refine hQ _ _ ?_
  unfold opTick
  rw [if_neg (not_not_intro g0)]
  exact Pc.ok (nowW hR) (hR.set hI (Or.inl ⟨rfl, rfl, rfl⟩)) (kK.rf.up (by omega))
theorem pX9_seed {d : Nat} {im : XI} {bo : Bool} {s : Nat → Int32} {np nd : Nat} {v : Int32} (hR : RI 0 s im) (hI : Iv s np nd) : SpI mX9_seed d [.ref 0, .int v] (SC bo) im (fun x im' => Pc im (opSeed s v) x im') := by
  refine SpI.of [some (.ref 0), some (.int v), none] rfl (by decide) rfl (fun Q hQ => ?_)
  refine bX9_seed_0 ?_
  exact hQ _ _ (Pc.ok hR.1.2.2.2 (hR.set hI (Or.inr (Or.inl ⟨rfl, rfl, rfl⟩))) (kK.rf.up (by omega)))

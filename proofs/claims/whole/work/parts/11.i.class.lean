theorem pX2_goBy {d : Nat} {im : XI} {bo : Bool} {s : Nat → Int32} {np nd : Nat} (hR : RI 0 s im) (hI : Iv s np nd) : SpI mX2_goBy (d + 5) [.ref 1] (SC bo) im (fun x im' => x = tickA s ∧ RI 0 (tick1 s) im' ∧ kK im im') := by
  refine SpI.of [some (.ref 1), none, none, none, none, none] rfl (by decide) rfl (fun Q hQ => ?_)
  have hnp := hI.1.1
  have hnd := hI.2.1.1
  obtain ⟨m, hm, hme⟩ := allT_nat (s 0) hI
  refine bX2_goBy_0 (pX2_shutSet hR hI) ?_
  rintro _ im1 ⟨rfl, hk⟩
  rw [show im 1 8 = s 0 from hR.1.2.2.1]
  refine bX2_goBy_8 ?_
  obtain ⟨sh, hsh⟩ : ∃ sh, sh = allT s (s 0) := ⟨_, rfl⟩
  rw [← hsh] at hme ⊢
  have hshA : shutAll s = sh := by rw [hsh]; exact shutAll_T s
  have key : ∀ (n k : Nat) (im1 : XI), nd < k + n → k ≤ nd → RI 0 (tickS s sh k) im1 → kK im im1 → V mX2_goBy (d + 5) (0, 0) 13 [some (.ref 1), some (.int sh), some (.int (tickN s sh k)), some (.int (nI k)), none, none] [] (SC bo) im1 Q := by
    intro n
    induction n with
    | zero => intro k im1 a1 a2; omega
    | succ n ih =>
      intro k im1 a1 a2 hRk hkk
      have hIk : Iv (tickS s sh k) np nd := tickS_Iv hI a2
      refine bX2_goBy_13 (fun c => ?_) (fun c => ?_)
      · rw [hRk.nd hIk] at c
        have := ge_i (by omega) (by omega) c
        obtain rfl : k = nd := by omega
        refine bX2_goBy_77 ?_
        have e0 : tickS s sh k 0 = s 0 := tickS_o (fun j hj => by omega)
        refine hQ _ _ ⟨?_, ?_, hkk.up (by omega)⟩
        · unfold tickA; rw [hshA, nnd hI]
        · have := hRk.set (j := 0) (a := 1) (i := 8) (v := s 0 + 1) hIk (Or.inl ⟨rfl, rfl, rfl⟩)
          unfold tick1
          rw [hshA, nnd hI, show im1 1 8 = s 0 from hRk.1.2.2.1.trans e0]
          exact this
      · rw [hRk.nd hIk] at c
        have hlt := lt_i (by omega) (by omega) c
        obtain ⟨d0, d1, d2⟩ := hRk.doi hIk hlt
        obtain ⟨q, hq, hqe⟩ := (hIk.2.1.2.2 k hlt).2.1
        refine bX2_goBy_21 rfl (by omega) (pX2_leftBehindTick hRk hIk rfl hlt hme hm (d1.trans hqe) hq) ?_
        rintro _ im2 ⟨rfl, hk2⟩
        rw [d1, d2, ← on1_L]
        have hR2 := hRk.kC hIk hk2
        have hS : tickS s sh (k + 1) = upd (tickS s sh k) (33 + 3 * k) (on1 (tickS s sh k) k sh) := rfl
        have hN : tickN s sh (k + 1) = tickN s sh k + b2i (¬ tickS s sh k (33 + 3 * k) = 0 ∧ on1 (tickS s sh k) k sh = 0) := rfl
        have go : ∀ z : Int32, z = tickN s sh (k + 1) → V mX2_goBy (d + 5) (0, 0) 64 [some (.ref 1), some (.int sh), some (.int z), some (.int (nI k)), some (.ref (22 + k)), some (.int (on1 (tickS s sh k) k sh))] [] (SC bo) im2 Q := by
          intro z hz
          subst hz
          refine bX2_goBy_64 (xdoing (by omega)) ?_
          rw [nI_1]
          refine ih (k + 1) _ (by omega) (by omega) ?_ ((hkk.tr hk2.K).up (by omega))
          rw [hS]
          exact hR2.set hIk (Or.inr (Or.inr (Or.inr ⟨k, 1, by omega, by omega, by omega, rfl, rfl⟩)))
        have e1 : im2 (22 + k) 1 = tickS s sh k (33 + 3 * k) := (hR2.doi hIk hlt).2.1
        refine bX2_goBy_46 (fun h => ?_) (fun h => ?_)
        · exact go _ (by rw [hN, b2i_f (fun g => h g.2), Int32.add_zero])
        · refine bX2_goBy_53 (xdoing (by omega)) (fun h2 => ?_) (fun h2 => ?_)
          · rw [e1, hqe, nI_le0 (by omega)] at h2
            exact go _ (by rw [hN, b2i_f (fun g => g.1 (by rw [hqe, h2]; rfl)), Int32.add_zero])
          · rw [e1, hqe, nI_le0 (by omega)] at h2
            refine bX2_goBy_61 ?_
            exact go _ (by rw [hN, b2i_t ⟨by rw [hqe]; exact nI_ne0 (by omega) (by omega), h⟩])
  refine key (nd + 1) 0 im1 (by omega) (by omega) (hR.kC hI hk) hk.K
theorem pX2_draw {d : Nat} {im : XI} {bo : Bool} {s : Nat → Int32} {np nd : Nat} (hR : RI 0 s im) (hI : Iv s np nd) : SpI mX2_draw d [.ref 1] (SC bo) im (fun x im' => x = ushr8 (zn (s 1)) ∧ RI 0 (upd s 1 (zn (s 1))) im' ∧ kK im im') := by
  refine SpI.of [some (.ref 1)] rfl (by decide) rfl (fun Q hQ => ?_)
  refine bX2_draw_0 ?_
  have e : im 1 9 = s 1 := hR.1.2.2.2
  refine hQ _ _ ⟨?_, ?_, kK.rf.up (by omega)⟩
  · rw [xup_at, e]; rfl
  · rw [e]
    exact hR.set hI (Or.inr (Or.inl ⟨rfl, rfl, rfl⟩))
theorem pX2_drawPhase {d : Nat} {im : XI} {bo : Bool} {s : Nat → Int32} {np nd : Nat} (hR : RI 0 s im) (hI : Iv s np nd) : SpV mX2_drawPhase (d + 2) [.ref 1] (SC bo) im (fun im' => RI 0 (shift1 s) im' ∧ kK im im') := by
  refine SpV.of [some (.ref 1), none, none] rfl (by decide) rfl (fun Q hQ => ?_)
  have hnp := hI.1.1
  have e6 : im 1 6 = nI np := hR.np hI
  refine bX2_drawPhase_0 (fun h => ?_) (fun h => ?_)
  · rw [e6] at h
    refine bX2_drawPhase_16 ?_
    have : shift1 s = s := by
      unfold shift1
      rw [hI.1.2.1, h, if_pos (by decide)]
    exact hQ _ ⟨by rw [this]; exact hR, kK.rf⟩
  · rw [e6] at h
    have hn0 : 0 < np := by
      rcases Nat.eq_zero_or_pos np with g | g
      · exact absurd (by rw [g]; rfl) h
      · exact g
    have h4 : ¬ s 4 ≤ 0 := by rw [hI.1.2.1]; exact nI_nle hn0 (by omega)
    refine bX2_drawPhase_7 (pX2_draw hR hI) ?_
    rintro _ im1 ⟨rfl, hR1, hk1⟩
    have hI1 : Iv (upd s 1 (zn (s 1))) np nd := Iv_free hI (Or.inr (Or.inl rfl))
    refine bX2_drawPhase_11 (fun h2 => ?_) (fun h2 => ?_)
    rotate_left
    · refine bX2_drawPhase_16 ?_
      have : shift1 s = upd s 1 (zn (s 1)) := by
        unfold shift1
        rw [if_neg h4, if_pos (show ¬ jrem (ushr8 (zn (s 1))) 4 = 0 from h2)]
      exact hQ _ ⟨by rw [this]; exact hR1, hk1⟩
    refine bX2_drawPhase_17 (pX2_draw hR1 hI1) ?_
    rw [upd_at, upd_upd]
    rintro _ im2 ⟨rfl, hR2, hk2⟩
    have hI2 : Iv (upd s 1 (zn (zn (s 1)))) np nd := Iv_free hI (Or.inr (Or.inl rfl))
    have e62 : im2 1 6 = nI np := hR2.np hI2
    refine bX2_drawPhase_21 (by rw [e62]; exact h) (pX2_draw hR2 hI2) ?_
    rw [upd_at, upd_upd, e62]
    rintro _ im3 ⟨rfl, hR3, hk3⟩
    have hI3 : Iv (upd s 1 (zn (zn (zn (s 1))))) np nd := Iv_free hI (Or.inr (Or.inl rfl))
    obtain ⟨p, hp, hpe⟩ := jrem_nat (ushr8_pos (zn (zn (s 1)))) hn0 (by omega)
    rw [show ushr8 (zn (zn (s 1))) - ushr8 (zn (zn (s 1))) / nI np * nI np = nI p from hpe]
    have hok : okP (upd s 1 (zn (zn (zn (s 1))))) (nI p) := by
      show 0 ≤ nI p ∧ nI p ≤ _ - 1
      rw [hI3.1.2.1]
      exact (in_n (by omega)).mpr ⟨p, hp, rfl⟩
    refine bX2_drawPhase_31 (pX2_hasPerson hR3) ?_
    rintro x im4 ⟨hx, hmm⟩
    subst hmm
    refine bX2_drawPhase_37 (fun h3 => absurd hok (by rw [hx, b2i_z] at h3; exact h3)) (fun _ => ?_)
    obtain ⟨p0, p1, p2, p3⟩ := hR3.per hI3 hp
    obtain ⟨b, hb0, hb, hbe⟩ := (hI3.1.2.2 p hp).2
    refine bX2_drawPhase_40 rfl (by omega) (pX9_rest (p2.trans hbe) hb0 (by omega)) ?_
    rintro x im5 ⟨hx5, hmm⟩
    subst hmm
    refine bX2_drawPhase_60 (xperson (by omega)) ?_
    refine bX2_drawPhase_63 ?_
    have hsh : shift1 s = upd (upd s 1 (zn (zn (zn (s 1))))) (11 + 4 * p) x := by
      unfold shift1
      rw [if_neg h4, if_neg (show ¬ ¬ jrem (ushr8 (zn (s 1))) 4 = 0 from not_not_intro h2), hI.1.2.1, hpe, nnat_nI (by omega), hx5, p2, upd_ne (by omega)]
      unfold rest0
      rw [Int32.add_zero]
    refine hQ _ ⟨?_, (((hk1.tr hk2).tr hk3).up (by omega))⟩
    rw [hsh]
    exact hR3.set hI3 (Or.inr (Or.inr (Or.inl ⟨p, 3, by omega, by omega, by omega, rfl, rfl⟩)))
theorem pX2_partsTogether {d : Nat} {im : XI} {bo : Bool} {s : Nat → Int32} {np nd : Nat} (hR : RI 0 s im) (hI : Iv s np nd) : SpI mX2_partsTogether d [.ref 1] (SC bo) im (fun x im' => x = sumP s (nnat (s 5)) ∧ im = im') := by
  refine SpI.of [some (.ref 1), none, none] rfl (by decide) rfl (fun Q hQ => ?_)
  have hnd := hI.2.1.1
  have key : ∀ (n k : Nat), nd < k + n → k ≤ nd → V mX2_partsTogether d (0, 0) 4 [some (.ref 1), some (.int (sumP s k)), some (.int (nI k))] [] (SC bo) im Q := by
    intro n
    induction n with
    | zero => intro k a1 a2; omega
    | succ n ih =>
      intro k a1 a2
      refine bX2_partsTogether_4 (fun c => ?_) (fun c => ?_)
      · rw [hR.nd hI] at c
        have := ge_i (by omega) (by omega) c
        obtain rfl : k = nd := by omega
        refine bX2_partsTogether_30 ?_
        exact hQ _ _ ⟨by rw [nnd hI], rfl⟩
      · rw [hR.nd hI] at c
        have hlt := lt_i (by omega) (by omega) c
        refine bX2_partsTogether_12 rfl (by omega) ?_
        rw [nI_1, (hR.doi hI hlt).2.1, show sumP s k + s (33 + 3 * k) = sumP s (k + 1) from rfl]
        exact ih (k + 1) (by omega) (by omega)
  refine bX2_partsTogether_0 ?_
  exact key (nd + 1) 0 (by omega) (by omega)

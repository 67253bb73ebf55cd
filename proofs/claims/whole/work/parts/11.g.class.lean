theorem RI.texts {s : Nat → Int32} {np nd : Nat} (hI : Iv s np nd) : textOk s 0 ∧ textOk s 1 := ⟨hI.2.2.2.2.1, hI.2.2.2.2.2⟩
theorem RI.l0 {s : Nat → Int32} {im : XI} (h : RI 0 s im) : LwR 0 s 0 im := h.2.2.2.2.2.1
theorem RI.l1 {s : Nat → Int32} {im : XI} (h : RI 0 s im) : LwR 0 s 1 im := h.2.2.2.2.2.2
theorem nnp {s : Nat → Int32} {np nd : Nat} (hI : Iv s np nd) : nnat (s 4) = np := by rw [hI.1.2.1, nnat_nI (by have := hI.1.1; omega)]
theorem nnd {s : Nat → Int32} {np nd : Nat} (hI : Iv s np nd) : nnat (s 5) = nd := by rw [hI.2.1.2.1, nnat_nI (by have := hI.2.1.1; omega)]
theorem pX2_hasPerson {d : Nat} {im : XI} {bo : Bool} {s : Nat → Int32} {v : Int32} (hR : RI 0 s im) : SpI mX2_hasPerson (d + 1) [.ref 1, .int v] (SC bo) im (fun x im' => x = b2i (okP s v) ∧ im = im') := by
  refine SpI.of [some (.ref 1), some (.int v)] rfl (by decide) rfl (fun Q hQ => ?_)
  refine bX2_hasPerson_0 pX9_within ?_
  rintro x im1 ⟨hx, hm⟩
  subst hm
  rw [show im 1 6 = s 4 from hR.1.1] at hx
  refine bX2_hasPerson_11 (by rw [hx]; exact b2i_01 _) ?_
  exact hQ _ _ ⟨hx, rfl⟩
theorem pX2_hasDoing {d : Nat} {im : XI} {bo : Bool} {s : Nat → Int32} {v : Int32} (hR : RI 0 s im) : SpI mX2_hasDoing (d + 1) [.ref 1, .int v] (SC bo) im (fun x im' => x = b2i (okD s v) ∧ im = im') := by
  refine SpI.of [some (.ref 1), some (.int v)] rfl (by decide) rfl (fun Q hQ => ?_)
  refine bX2_hasDoing_0 pX9_within ?_
  rintro x im1 ⟨hx, hm⟩
  subst hm
  rw [show im 1 7 = s 5 from hR.1.2.1] at hx
  refine bX2_hasDoing_11 (by rw [hx]; exact b2i_01 _) ?_
  exact hQ _ _ ⟨hx, rfl⟩
theorem pX2_hasSet {d : Nat} {im : XI} {bo : Bool} {s : Nat → Int32} {v : Int32} (hR : RI 0 s im) : SpI mX2_hasSet (d + 1) [.ref 1, .int v] (SC bo) im (fun x im' => x = b2i (okSet s v) ∧ im = im') := by
  refine SpI.of [some (.ref 1), some (.int v)] rfl (by decide) rfl (fun Q hQ => ?_)
  refine bX2_hasSet_0 pX9_within ?_
  rintro x im1 ⟨hx, hm⟩
  subst hm
  rw [show im 1 6 = s 4 from hR.1.1] at hx
  refine bX2_hasSet_13 (by rw [hx]; exact b2i_01 _) ?_
  exact hQ _ _ ⟨hx, rfl⟩
theorem pX2_isShutBy {d : Nat} {im : XI} {bo : Bool} {s : Nat → Int32} {np nd : Nat} {v t w f : Int32} {p b : Nat} (hR : RI 0 s im) (hI : Iv s np nd) (hv : v = nI p) (hp : p < np) (hw : w = nI b) (hb0 : 0 < b) (hb : b ≤ 12) : SpI mX2_isShutBy (d + 3) [.ref 1, .int v, .int t, .int w, .int f] (SC bo) im (fun x im' => x = shutG s p t w f ∧ kC im im') := by
  refine SpI.of [some (.ref 1), some (.int v), some (.int t), some (.int w), some (.int f), none, none] rfl (by decide) rfl (fun Q hQ => ?_)
  subst hv
  have hnp := hI.1.1
  refine bX2_isShutBy_0 (pX2_hasPerson hR) ?_
  rintro x im1 ⟨hx, hm⟩
  subst hm
  have hok : okP s (nI p) := by
    show 0 ≤ nI p ∧ nI p ≤ s 4 - 1
    rw [hI.1.2.1]
    exact (in_n (by omega)).mpr ⟨p, hp, rfl⟩
  refine bX2_isShutBy_5 (fun _ => ?_) (fun h => absurd hok (by rw [hx, b2i_z] at h; exact h))
  refine bX2_isShutBy_10 (pX9_rest hw hb0 (by omega)) ?_
  rintro _ _ ⟨rfl, rfl⟩
  obtain ⟨p0, p1, p2, p3⟩ := hR.per hI hp
  refine bX2_isShutBy_17 rfl (by omega) (pX4_blinks (xperson (by omega)) p0 p1) ?_
  rintro _ _ ⟨rfl, rfl⟩
  have b01 := blinks0_01 (s (8 + 4 * p)) (s (9 + 4 * p)) t (rest0 t f w)
  have go : ∀ z : Int32, z = blinks0 (s (8 + 4 * p)) (s (9 + 4 * p)) t (rest0 t f w) → V mX2_isShutBy (d + 3) (0, 0) 39 [some (.ref 1), some (.int (nI p)), some (.int t), some (.int w), some (.int f), some (.int (rest0 t f w)), none] [.int z] (SC bo) im Q := by
    intro z hz
    refine bX2_isShutBy_39 (pX3_gives_0 hR.l0 (RI.texts hI).1) ?_
    rintro _ im2 ⟨rfl, hk⟩
    have he : told0 s (rest0 t f w) z (t - t / 24 * 24) = shutG s p t w f := by rw [hz]; rfl
    rw [he]
    refine bX2_isShutBy_56 (fun h => ?_) (fun h => ?_)
    · refine bX2_isShutBy_64 ?_
      refine bX2_isShutBy_65 (Or.inl rfl) ?_
      exact hQ _ _ ⟨((shutG_01 s p t w f).resolve_right h).symm, hk⟩
    · refine bX2_isShutBy_60 ?_
      refine bX2_isShutBy_65 (Or.inr rfl) ?_
      exact hQ _ _ ⟨h.symm, hk⟩
  refine bX2_isShutBy_31 (fun h => ?_) (fun h => ?_)
  · refine bX2_isShutBy_38 ?_
    exact go 0 h.symm
  · refine bX2_isShutBy_34 ?_
    exact go 1 (b01.resolve_left h).symm
theorem pX2_isShut {d : Nat} {im : XI} {bo : Bool} {s : Nat → Int32} {np nd : Nat} {v t : Int32} {p : Nat} (hR : RI 0 s im) (hI : Iv s np nd) (hv : v = nI p) (hp : p < np) : SpI mX2_isShut (d + 4) [.ref 1, .int v, .int t] (SC bo) im (fun x im' => x = shutT s t p ∧ kC im im') := by
  refine SpI.of [some (.ref 1), some (.int v), some (.int t)] rfl (by decide) rfl (fun Q hQ => ?_)
  subst hv
  have hnp := hI.1.1
  have hok : okP s (nI p) := by
    show 0 ≤ nI p ∧ nI p ≤ s 4 - 1
    rw [hI.1.2.1]
    exact (in_n (by omega)).mpr ⟨p, hp, rfl⟩
  refine bX2_isShut_0 (pX2_hasPerson hR) ?_
  rintro x im1 ⟨hx, hm⟩
  subst hm
  refine bX2_isShut_5 (fun h => absurd hok (by rw [hx, b2i_z] at h; exact h)) (fun _ => ?_)
  obtain ⟨p0, p1, p2, p3⟩ := hR.per hI hp
  obtain ⟨b, hb0, hb, hbe⟩ := (hI.1.2.2 p hp).2
  refine bX2_isShut_8 rfl (by omega) (pX2_isShutBy hR hI rfl hp (p2.trans hbe) hb0 hb) ?_
  rintro _ im2 ⟨rfl, hk⟩
  rw [p2, p3]
  refine bX2_isShut_32 (fun h => ?_) (fun h => ?_)
  · refine bX2_isShut_39 ?_
    refine bX2_isShut_40 (Or.inl rfl) ?_
    exact hQ _ _ ⟨h.symm, hk⟩
  · refine bX2_isShut_35 ?_
    refine bX2_isShut_40 (Or.inr rfl) ?_
    exact hQ _ _ ⟨((shutG_01 _ _ _ _ _).resolve_left h).symm, hk⟩
theorem pX2_shutSet {d : Nat} {im : XI} {bo : Bool} {s : Nat → Int32} {np nd : Nat} {t : Int32} (hR : RI 0 s im) (hI : Iv s np nd) : SpI mX2_shutSet (d + 4) [.ref 1, .int t] (SC bo) im (fun x im' => x = allT s t ∧ kC im im') := by
  refine SpI.of [some (.ref 1), some (.int t), none, none] rfl (by decide) rfl (fun Q hQ => ?_)
  have hnp := hI.1.1
  have key : ∀ (n k : Nat) (im1 : XI), np < k + n → k ≤ np → kC im im1 → V mX2_shutSet (d + 4) (0, 0) 4 [some (.ref 1), some (.int t), some (.int (allTN s t k)), some (.int (nI k))] [] (SC bo) im1 Q := by
    intro n
    induction n with
    | zero => intro k im1 a1 a2; omega
    | succ n ih =>
      intro k im1 a1 a2 hk
      have hR1 := hR.kC hI hk
      refine bX2_shutSet_4 (fun c => ?_) (fun c => ?_)
      · rw [hR1.np hI] at c
        have := ge_i (by omega) (by omega) c
        obtain rfl : k = np := by omega
        refine bX2_shutSet_51 ?_
        exact hQ _ _ ⟨by unfold allT; rw [nnp hI], hk⟩
      · rw [hR1.np hI] at c
        have hlt := lt_i (by omega) (by omega) c
        obtain ⟨p0, p1, p2, p3⟩ := hR1.per hI hlt
        obtain ⟨b, hb0, hb, hbe⟩ := (hI.1.2.2 k hlt).2
        refine bX2_shutSet_12 rfl (by omega) (pX2_isShutBy hR1 hI rfl hlt (p2.trans hbe) hb0 hb) ?_
        rintro _ im2 ⟨rfl, hk2⟩
        rw [p2, p3]
        have hs : allTN s t (k + 1) = allTN s t k ||| (shutG s k t (s (10 + 4 * k)) (s (11 + 4 * k)) <<< (nI k &&& 31)) := rfl
        refine bX2_shutSet_36 (fun h => ?_) (fun h => ?_)
        · refine bX2_shutSet_45 ?_
          rw [h, Int32.zero_shiftLeft, Int32.or_zero] at hs
          rw [nI_1, ← hs]
          exact ih (k + 1) im2 (by omega) (by omega) (hk.tr hk2)
        · have h1 := (shutG_01 s k t (s (10 + 4 * k)) (s (11 + 4 * k))).resolve_left h
          refine bX2_shutSet_39 ?_
          refine bX2_shutSet_45 ?_
          rw [h1] at hs
          rw [nI_1, ← hs]
          exact ih (k + 1) im2 (by omega) (by omega) (hk.tr hk2)
  refine bX2_shutSet_0 ?_
  exact key (np + 1) 0 im (by omega) (by omega) kC.rf
theorem pX2_isMoment {d : Nat} {im : XI} {bo : Bool} {s : Nat → Int32} {np nd : Nat} {set t : Int32} (hR : RI 0 s im) (hI : Iv s np nd) : SpI mX2_isMoment (d + 5) [.ref 1, .int set, .int t] (SC bo) im (fun x im' => x = mom0 s set t ∧ kC im im') := by
  refine SpI.of [some (.ref 1), some (.int set), some (.int t), none] rfl (by decide) rfl (fun Q hQ => ?_)
  have hnp := hI.1.1
  have key : ∀ (n k : Nat) (im1 : XI), np < k + n → k ≤ np → kC im im1 → momN s set t k = 1 → V mX2_isMoment (d + 5) (0, 0) 2 [some (.ref 1), some (.int set), some (.int t), some (.int (nI k))] [] (SC bo) im1 Q := by
    intro n
    induction n with
    | zero => intro k im1 a1 a2; omega
    | succ n ih =>
      intro k im1 a1 a2 hk hm1
      have hR1 := hR.kC hI hk
      refine bX2_isMoment_2 (fun c => ?_) (fun c => ?_)
      · rw [hR1.np hI] at c
        have := ge_i (by omega) (by omega) c
        obtain rfl : k = np := by omega
        refine bX2_isMoment_35 ?_
        exact hQ _ _ ⟨by unfold mom0; rw [nnp hI, hm1], hk⟩
      · rw [hR1.np hI] at c
        have hlt := lt_i (by omega) (by omega) c
        have hms : momN s set t (k + 1) = if momN s set t k = 0 then 0 else if ((set >>> (nI k &&& 31)) &&& 1) = 0 ∨ shutT s t k = 1 then 1 else 0 := rfl
        rw [hm1, if_neg (by decide)] at hms
        refine bX2_isMoment_10 pX9_holds ?_
        rintro _ _ ⟨rfl, rfl⟩
        refine bX2_isMoment_15 (fun h => ?_) (fun h => ?_)
        · rw [b2i_z] at h
          have h0 := (and1 (set >>> (nI k &&& 31))).resolve_right h
          refine bX2_isMoment_29 ?_
          rw [nI_1]
          exact ih (k + 1) _ (by omega) (by omega) hk (by rw [hms, if_pos (Or.inl h0)])
        · rw [b2i_nz] at h
          refine bX2_isMoment_18 (pX2_isShut hR1 hI rfl hlt) ?_
          rintro _ im2 ⟨rfl, hk2⟩
          refine bX2_isMoment_24 (fun g => ?_) (fun g => ?_)
          · have g1 : shutT s t k = 1 := (shutG_01 s k t (s (10 + 4 * k)) (s (11 + 4 * k))).resolve_left g
            refine bX2_isMoment_29 ?_
            rw [nI_1]
            exact ih (k + 1) _ (by omega) (by omega) (hk.tr hk2) (by rw [hms, if_pos (Or.inr g1)])
          · refine bX2_isMoment_27 ?_
            refine hQ _ _ ⟨?_, hk.tr hk2⟩
            unfold mom0
            rw [nnp hI]
            refine (momN_z (n := k + 1) ?_ (by omega)).symm
            rw [hms, if_neg (fun e => e.elim (fun e => by rw [h] at e; exact absurd e (by decide)) (fun e => by rw [g] at e; exact absurd e (by decide)))]
  refine bX2_isMoment_0 ?_
  exact key (np + 1) 0 im (by omega) (by omega) kC.rf rfl
theorem pX2_getsOnBy {d : Nat} {im : XI} {bo : Bool} {s : Nat → Int32} {np nd : Nat} {a e m : Nat} {l sh : Int32} (hR : RI 0 s im) (hI : Iv s np nd) (ha : a = 22 + e) (he : e < nd) (hsh : sh = nI m) (hm : m < 64) : SpI mX2_getsOnBy (d + 3) [.ref 1, .ref a, .int l, .int sh] (SC bo) im (fun x im' => x = onB s e sh l ∧ kC im im') := by
  refine SpI.of [some (.ref 1), some (.ref a), some (.int l), some (.int sh), none, none] rfl (by decide) rfl (fun Q hQ => ?_)
  subst ha
  have hnp := hI.1.1
  have hnd := hI.2.1.1
  obtain ⟨d0, d1, d2⟩ := hR.doi hI he
  obtain ⟨w, hw, hwe⟩ := (hI.2.1.2.2 e he).1
  have dw : im (22 + e) 0 = nI w := d0.trans hwe
  have hok : okP s (nI w) := by
    show 0 ≤ nI w ∧ nI w ≤ s 4 - 1
    rw [hI.1.2.1]
    exact (in_n (by omega)).mpr ⟨w, hw, rfl⟩
  refine bX2_getsOnBy_0 (xdoing (by omega)) (pX2_hasPerson hR) ?_
  rintro x im1 ⟨hx, hmm⟩
  subst hmm
  rw [dw] at hx
  refine bX2_getsOnBy_8 (fun h => absurd hok (by rw [hx, b2i_z] at h; exact h)) (fun _ => ?_)
  obtain ⟨p0, p1, p2, p3⟩ := hR.per hI hw
  refine bX2_getsOnBy_11 (xdoing (by omega)) dw (by omega) (pX4_tries (xperson (by omega)) p0 p1) ?_
  rintro _ _ ⟨rfl, rfl⟩
  refine bX2_getsOnBy_27 ?_
  subst hsh
  obtain ⟨n, hn, hne⟩ := and64 hm ((1 <<< (im (22 + e) 0 &&& 31)) ^^^ -1)
  refine bX2_getsOnBy_31 (xdoing (by omega)) (pJ6_bitCount_0f7a4 hne hn) ?_
  rintro _ _ ⟨rfl, rfl⟩
  refine bX2_getsOnBy_46 (pX3_gives_1 hR.l1 (RI.texts hI).2) ?_
  rintro _ im2 ⟨rfl, hk⟩
  refine bX2_getsOnBy_60 ?_
  refine hQ _ _ ⟨?_, hk⟩
  rw [d0, hR.1.2.1]
  unfold onB
  rw [show nnat (s (32 + 3 * e)) = w by rw [hwe]; exact nnat_nI (by omega)]
theorem pX2_leftBehindTick {d : Nat} {im : XI} {bo : Bool} {s : Nat → Int32} {np nd : Nat} {a e m q : Nat} {l w sh : Int32} (hR : RI 0 s im) (hI : Iv s np nd) (ha : a = 22 + e) (he : e < nd) (hsh : sh = nI m) (hm : m < 64) (hl : l = nI q) (hq : q ≤ 99) : SpI mX2_leftBehindTick (d + 4) [.ref 1, .ref a, .int l, .int w, .int sh] (SC bo) im (fun x im' => x = stepL s e w l sh ∧ kC im im') := by
  refine SpI.of [some (.ref 1), some (.ref a), some (.int l), some (.int w), some (.int sh)] rfl (by decide) rfl (fun Q hQ => ?_)
  refine bX2_leftBehindTick_0 (fun h => ?_) (fun h => ?_)
  · refine bX2_leftBehindTick_13 ?_
    exact hQ _ _ ⟨by unfold stepL; rw [if_pos (Or.inl h)], kC.rf⟩
  refine bX2_leftBehindTick_4 (fun h2 => ?_) (fun h2 => ?_)
  rotate_left
  · refine bX2_leftBehindTick_13 ?_
    exact hQ _ _ ⟨by unfold stepL; rw [if_pos (Or.inr h2)], kC.rf⟩
  refine bX2_leftBehindTick_15 (pX2_getsOnBy hR hI ha he hsh hm) ?_
  rintro _ im2 ⟨rfl, hk⟩
  refine qX2_leftBehindTick_25 ?_
  refine bX2_leftBehindTick_29 ?_
  refine hQ _ _ ⟨?_, hk⟩
  have hst : stepL s e w l sh = held0 (l - onB s e sh l) 0 99 := by
    unfold stepL
    rw [if_neg (fun g => g.elim h (fun g => g h2))]
  rw [hst]
  obtain ⟨r, hr, hre⟩ : ∃ r : Nat, r ≤ 9 ∧ onB s e sh l = nI r := on0_nat _ _ _ _
  rw [hre, hl]
  have ht := pk_sub_toInt (a := q) (b := r) (by omega) (by omega)
  unfold held0
  simp only [i_le, i_lt, ht]
  have e0 : (0 : Int32).toInt = 0 := rfl
  have e99 : (99 : Int32).toInt = 99 := rfl
  (repeat' split) <;> first | rfl | (exfalso; omega) | (rw [i_eq, ht]; omega)

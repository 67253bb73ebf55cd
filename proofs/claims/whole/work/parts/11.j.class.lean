theorem doW {s : Nat → Int32} {im : XI} {np nd e : Nat} (hI : Iv s np nd) (hR : RI 0 s im) (he : e < nd) : im (22 + e) 1 = s (33 + 3 * e) ∧ im (22 + e) 2 = s (34 + 3 * e) := (hR.doi hI he).2
theorem nowW {s : Nat → Int32} {im : XI} (hR : RI 0 s im) : im 1 8 = s 0 := hR.1.2.2.1
theorem le0_nat {q : Nat} (hq : q ≤ 99) : (nI q ≤ 0 ↔ nI q = 0) := by
  rw [nI_le0 (by omega)]
  constructor
  · intro h; rw [h]; rfl
  · intro h; exact (nI_eq (b := 0) (by omega) (by omega)).mp h
theorem pX1_partsBehind {d : Nat} {im : XI} {bo : Bool} {s : Nat → Int32} {np nd : Nat} {a e j : Nat} {v : Int32} (hR : RI 0 s im) (hI : Iv s np nd) (he : e < nd) (ha : a = 22 + e) (hv : v = nI j) (hj : j ≤ 200) : SpI mX1_partsBehind (d + 5) [.ref 31, .ref a, .int v] (SC bo) im (fun x im' => x = leftN s e (s (34 + 3 * e)) (s 0) j ∧ kC im im') := by
  refine SpI.of [some (.ref 31), some (.ref a), some (.int v), none, none, none] rfl (by decide) rfl (fun Q hQ => ?_)
  subst ha; subst hv
  have hnp := hI.1.1
  have hnd := hI.2.1.1
  have key : ∀ (n k : Nat) (im1 : XI), j < k + n → k ≤ j → kC im im1 → V mX1_partsBehind (d + 5) (0, 0) 8 [some (.ref 31), some (.ref (22 + e)), some (.int (nI j)), some (.int (leftN s e (s (34 + 3 * e)) (s 0) k)), some (.int (nI k)), none] [] (SC bo) im1 Q := by
    intro n
    induction n with
    | zero => intro k im1 a1 a2; omega
    | succ n ih =>
      intro k im1 a1 a2 hk
      have hR1 := hR.kC hI hk
      obtain ⟨q, hq, hqe⟩ := leftN_nat (w := (s (34 + 3 * e))) (t := s 0) hI he k
      refine bX1_partsBehind_8 (fun c => ?_) (fun c => ?_)
      · have := ge_i (by omega) (by omega) c
        obtain rfl : k = j := by omega
        refine bX1_partsBehind_59 ?_
        exact hQ _ _ ⟨rfl, hk⟩
      · have hlt := lt_i (by omega) (by omega) c
        refine bX1_partsBehind_14 (fun c2 => ?_) (fun c2 => ?_)
        · rw [hqe, le0_nat hq, ← hqe] at c2
          refine bX1_partsBehind_59 ?_
          exact hQ _ _ ⟨by rw [c2, leftN_0 c2 a2], hk⟩
        · refine bX1_partsBehind_18 (pX2_shutSet hR1 hI) ?_
          rintro _ im2 ⟨rfl, hk2⟩
          have hR2 := hR1.kC hI hk2
          rw [nowW hR1]
          obtain ⟨m, hm, hme⟩ := allT_nat (s 0 + nI k) hI
          refine bX1_partsBehind_35 (xdoing (by omega)) (pX2_leftBehindTick hR2 hI rfl he hme hm hqe hq) ?_
          rintro _ im3 ⟨rfl, hk3⟩
          rw [(doW hI hR2 he).2]
          refine bX1_partsBehind_52 ?_
          rw [nI_1]
          exact ih (k + 1) im3 (by omega) (by omega) ((hk.tr hk2).tr hk3)
  refine bX1_partsBehind_0 (xdoing (by omega)) ?_
  rw [(doW hI hR he).1]
  exact key (j + 1) 0 im (by omega) (by omega) kC.rf
theorem pX1_soonestDone {d : Nat} {im : XI} {bo : Bool} {s : Nat → Int32} {np nd : Nat} {a e : Nat} (hR : RI 0 s im) (hI : Iv s np nd) (he : e < nd) (ha : a = 22 + e) : SpI mX1_soonestDone (d + 5) [.ref 31, .ref a] (SC bo) im (fun x im' => x = done0 s e (s (34 + 3 * e)) 200 ∧ kC im im') := by
  refine SpI.of [some (.ref 31), some (.ref a), none, none, none] rfl (by decide) rfl (fun Q hQ => ?_)
  subst ha
  have hnp := hI.1.1
  have hnd := hI.2.1.1
  have fin : ∀ (l v : Int32) (im1 : XI), kC im im1 → (if l = 0 then 0 else -1) = done0 s e (s (34 + 3 * e)) 200 → V mX1_soonestDone (d + 5) (0, 0) 66 [some (.ref 31), some (.ref (22 + e)), some (.int l), some (.int v), none] [] (SC bo) im1 Q := by
    intro l v im1 hk hx
    refine bX1_soonestDone_66 (fun c => ?_) (fun c => ?_)
    · refine bX1_soonestDone_74 ?_
      refine bX1_soonestDone_75 ?_
      exact hQ _ _ ⟨by rw [← hx, if_neg c], hk⟩
    · refine bX1_soonestDone_70 ?_
      refine bX1_soonestDone_75 ?_
      exact hQ _ _ ⟨by rw [← hx, if_pos c], hk⟩
  have key : ∀ (f k : Nat) (im1 : XI), k + f = 200 → (k = 0 ∨ ¬ leftN s e (s (34 + 3 * e)) (s 0) k = 0) → kC im im1 → firstP (leftN s e (s (34 + 3 * e)) (s 0)) 0 (f + 1) k = done0 s e (s (34 + 3 * e)) 200 → V mX1_soonestDone (d + 5) (0, 0) 7 [some (.ref 31), some (.ref (22 + e)), some (.int (leftN s e (s (34 + 3 * e)) (s 0) k)), some (.int (nI k)), none] [] (SC bo) im1 Q := by
    intro f
    induction f with
    | zero =>
      intro k im1 a1 hz hk hf
      refine bX1_soonestDone_7 (fun _ => ?_) (fun c => absurd (nI_le (a := 200) (b := k) (by omega) (by omega)) c)
      have hz' : ¬ leftN s e (s (34 + 3 * e)) (s 0) k = 0 := hz.resolve_left (by omega)
      refine fin _ _ _ hk ?_
      rw [← hf, firstP_2 hz', if_neg hz']
      rfl
    | succ f ih =>
      intro k im1 a1 hz hk hf
      have hR1 := hR.kC hI hk
      obtain ⟨q, hq, hqe⟩ := leftN_nat (w := (s (34 + 3 * e))) (t := s 0) hI he k
      refine bX1_soonestDone_7 (fun c => absurd (ge_i (a := 200) (by omega) (by omega) c) (by omega)) (fun _ => ?_)
      refine bX1_soonestDone_14 (fun c2 => ?_) (fun c2 => ?_)
      · rw [hqe, le0_nat hq, ← hqe] at c2
        have hk0 : k = 0 := hz.resolve_right (fun g => g c2)
        refine fin _ _ _ hk ?_
        rw [← hf, firstP_1 c2, if_pos c2, hk0]
        rfl
      · have c3 : ¬ leftN s e (s (34 + 3 * e)) (s 0) k = 0 := fun g => c2 (by rw [g]; decide)
        refine bX1_soonestDone_18 (pX2_shutSet hR1 hI) ?_
        rintro _ im2 ⟨rfl, hk2⟩
        have hR2 := hR1.kC hI hk2
        rw [nowW hR1]
        obtain ⟨m, hm, hme⟩ := allT_nat (s 0 + nI k) hI
        refine bX1_soonestDone_34 (xdoing (by omega)) (pX2_leftBehindTick hR2 hI rfl he hme hm hqe hq) ?_
        rintro _ im3 ⟨rfl, hk3⟩
        rw [(doW hI hR2 he).2]
        have hN : leftN s e (s (34 + 3 * e)) (s 0) (k + 1) = stepL s e (s (34 + 3 * e)) (leftN s e (s (34 + 3 * e)) (s 0) k) (allT s (s 0 + nI k)) := rfl
        rw [← hN]
        rw [firstP_2 c3] at hf
        refine bX1_soonestDone_51 (fun c4 => ?_) (fun c4 => ?_)
        · refine bX1_soonestDone_60 ?_
          rw [nI_1]
          exact ih (k + 1) im3 (by omega) (Or.inr c4) ((hk.tr hk2).tr hk3) hf
        · refine bX1_soonestDone_56 ?_
          exact hQ _ _ ⟨by rw [← hf, firstP_1 c4, nI_1], (hk.tr hk2).tr hk3⟩
  refine bX1_soonestDone_0 (xdoing (by omega)) ?_
  rw [(doW hI hR he).1]
  exact key 200 0 im rfl (Or.inl rfl) kC.rf rfl
theorem pX1_lookAhead {d : Nat} {im : XI} {bo : Bool} {s : Nat → Int32} {np nd : Nat} {j : Nat} {v : Int32} (hR : RI 0 s im) (hI : Iv s np nd) (hv : v = nI j) (hj : j ≤ 99) : SpV mX1_lookAhead (d + 5) [.ref 31, .int v] (SC bo) im (fun im' => (∀ i, i < j → im' 32 i = allT s (s 0 + nI i)) ∧ kF im im') := by
  refine SpV.of [some (.ref 31), some (.int v), none] rfl (by decide) rfl (fun Q hQ => ?_)
  subst hv
  have xa : XA (SC bo) 32 99 := by cases bo <;> exact ⟨rfl, rfl⟩
  have key : ∀ (n k : Nat) (im1 : XI), j < k + n → k ≤ j → kF im im1 → (∀ i, i < k → im1 32 i = allT s (s 0 + nI i)) → V mX1_lookAhead (d + 5) (0, 0) 2 [some (.ref 31), some (.int (nI j)), some (.int (nI k))] [] (SC bo) im1 Q := by
    intro n
    induction n with
    | zero => intro k im1 a1 a2; omega
    | succ n ih =>
      intro k im1 a1 a2 hk hz
      have hR1 := hR.kF hI hk
      refine bX1_lookAhead_2 (fun c => ?_) (fun c => ?_)
      · have := ge_i (by omega) (by omega) c
        obtain rfl : k = j := by omega
        refine bX1_lookAhead_41 ?_
        exact hQ _ ⟨hz, hk⟩
      · have hlt := lt_i (by omega) (by omega) c
        refine bX1_lookAhead_7 (fun c2 => absurd (ge_i (a := 99) (by omega) (by omega) c2) (by omega)) (fun _ => ?_)
        refine bX1_lookAhead_13 (pX2_shutSet hR1 hI) ?_
        rintro _ im2 ⟨rfl, hk2⟩
        rw [nowW hR1]
        refine bX1_lookAhead_34 xa rfl (by omega) ?_
        rw [nI_1]
        refine ih (k + 1) _ (by omega) (by omega) ((hk.tr hk2.F).up (by omega)) ?_
        intro i hi
        by_cases hik : i = k
        · subst hik; rw [xup_at]
        · rw [xup_ne hik, hk2 32 i (by omega)]
          exact hz i (by omega)
  refine bX1_lookAhead_0 ?_
  exact key (j + 1) 0 im (by omega) (by omega) kF.rf (fun i hi => absurd hi (Nat.not_lt_zero i))
theorem pX1_doneBehind {d : Nat} {im : XI} {bo : Bool} {s : Nat → Int32} {np nd : Nat} {a e j : Nat} {w v : Int32} {lf sq : Nat → Int32} (hR : RI 0 s im) (hI : Iv s np nd) (he : e < nd) (ha : a = 22 + e) (hv : v = nI j) (hj : j ≤ 99) (h0 : lf 0 = s (33 + 3 * e)) (hl : ∀ k, k < j → lf (k + 1) = stepL s e w (lf k) (sq k)) (hs : ∀ k, k < j → im 32 k = sq k ∧ ∃ m : Nat, m < 64 ∧ sq k = nI m) : SpI mX1_doneBehind (d + 5) [.ref 31, .ref a, .int w, .int v] (SC bo) im (fun x im' => x = firstP lf 0 (j + 1) 0 ∧ kC im im') := by
  refine SpI.of [some (.ref 31), some (.ref a), some (.int w), some (.int v), none, none] rfl (by decide) rfl (fun Q hQ => ?_)
  subst ha; subst hv
  have hnp := hI.1.1
  have hnd := hI.2.1.1
  have fin : ∀ (l v : Int32) (im1 : XI), kC im im1 → (if l = 0 then 0 else -1) = firstP lf 0 (j + 1) 0 → V mX1_doneBehind (d + 5) (0, 0) 63 [some (.ref 31), some (.ref (22 + e)), some (.int w), some (.int (nI j)), some (.int l), some (.int v)] [] (SC bo) im1 Q := by
    intro l v im1 hk hx
    refine bX1_doneBehind_63 (fun c => ?_) (fun c => ?_)
    · refine bX1_doneBehind_72 ?_
      refine bX1_doneBehind_73 ?_
      exact hQ _ _ ⟨by rw [← hx, if_neg c], hk⟩
    · refine bX1_doneBehind_68 ?_
      refine bX1_doneBehind_73 ?_
      exact hQ _ _ ⟨by rw [← hx, if_pos c], hk⟩
  have hnat : ∀ k, k ≤ j → ∃ q : Nat, q ≤ 99 ∧ lf k = nI q := by
    intro k
    induction k with
    | zero =>
      intro _
      obtain ⟨q, hq, hqe⟩ := (hI.2.1.2.2 e he).2.1
      exact ⟨q, hq, h0.trans hqe⟩
    | succ k ihk =>
      intro hk
      obtain ⟨q, hq, hqe⟩ := ihk (by omega)
      rw [hl k (by omega)]
      exact stepL_nat hqe hq
  have key : ∀ (f k : Nat) (im1 : XI), k + f = j → (k = 0 ∨ ¬ lf k = 0) → kC im im1 → firstP lf 0 (f + 1) k = firstP lf 0 (j + 1) 0 → V mX1_doneBehind (d + 5) (0, 0) 9 [some (.ref 31), some (.ref (22 + e)), some (.int w), some (.int (nI j)), some (.int (lf k)), some (.int (nI k))] [] (SC bo) im1 Q := by
    intro f
    induction f with
    | zero =>
      intro k im1 a1 hz hk hf
      refine bX1_doneBehind_9 (fun _ => ?_) (fun c => absurd (nI_le (a := j) (b := k) (by omega) (by omega)) c)
      refine fin _ _ _ hk ?_
      rw [← hf]
      by_cases c : lf k = 0
      · rw [if_pos c, firstP_1 c, hz.resolve_right (fun g => g c)]
        rfl
      · rw [if_neg c, firstP_2 c]
        rfl
    | succ f ih =>
      intro k im1 a1 hz hk hf
      have hR1 := hR.kC hI hk
      obtain ⟨q, hq, hqe⟩ := hnat k (by omega)
      refine bX1_doneBehind_9 (fun c => absurd (ge_i (a := j) (by omega) (by omega) c) (by omega)) (fun _ => ?_)
      refine bX1_doneBehind_15 (fun c => absurd (ge_i (a := 99) (by omega) (by omega) c) (by omega)) (fun _ => ?_)
      refine bX1_doneBehind_22 (fun c2 => ?_) (fun c2 => ?_)
      · rw [hqe, le0_nat hq, ← hqe] at c2
        have hk0 : k = 0 := hz.resolve_right (fun g => g c2)
        refine fin _ _ _ hk ?_
        rw [← hf, firstP_1 c2, if_pos c2, hk0]
        rfl
      · have c3 : ¬ lf k = 0 := fun g => c2 (by rw [g]; decide)
        obtain ⟨e1, m, hm, hme⟩ := hs k (by omega)
        have e2 : im1 32 k = sq k := (hk 32 k (by omega)).trans e1
        refine bX1_doneBehind_27 (i1 := k) rfl (by omega) (pX2_leftBehindTick hR1 hI rfl he (e2.trans hme) hm hqe hq) ?_
        rintro _ im3 ⟨rfl, hk3⟩
        rw [e2, ← hl k (by omega)]
        rw [firstP_2 c3] at hf
        refine bX1_doneBehind_45 (fun c4 => ?_) (fun c4 => ?_)
        · refine bX1_doneBehind_57 ?_
          rw [nI_1]
          exact ih (k + 1) im3 (by omega) (Or.inr c4) (hk.tr hk3) hf
        · refine bX1_doneBehind_52 ?_
          exact hQ _ _ ⟨by rw [← hf, firstP_1 c4, nI_1], hk.tr hk3⟩
  refine bX1_doneBehind_0 (xdoing (by omega)) ?_
  rw [(doW hI hR he).1, ← h0]
  exact key j 0 im (by omega) (Or.inl rfl) kC.rf rfl
theorem pX1_firstMoment {d : Nat} {im : XI} {bo : Bool} {s : Nat → Int32} {np nd : Nat} {set : Int32} (hR : RI 0 s im) (hI : Iv s np nd) : SpI mX1_firstMoment (d + 6) [.ref 31, .int set] (SC bo) im (fun x im' => x = moment0 s set ∧ kC im im') := by
  refine SpI.of [some (.ref 31), some (.int set), none] rfl (by decide) rfl (fun Q hQ => ?_)
  have key : ∀ (f k : Nat) (im1 : XI), k + f = 401 → kC im im1 → firstP (fun k => mom0 s set (s 0 + nI k)) 1 f k = moment0 s set → V mX1_firstMoment (d + 6) (0, 0) 2 [some (.ref 31), some (.int set), some (.int (nI k))] [] (SC bo) im1 Q := by
    intro f
    induction f with
    | zero =>
      intro k im1 a1 hk hf
      refine bX1_firstMoment_2 (fun _ => ?_) (fun c => absurd (nI_lt (a := 400) (b := k) (by omega) (by omega)) c)
      refine bX1_firstMoment_37 ?_
      exact hQ _ _ ⟨by rw [← hf]; rfl, hk⟩
    | succ f ih =>
      intro k im1 a1 hk hf
      have hR1 := hR.kC hI hk
      refine bX1_firstMoment_2 (fun c => absurd ((nI_ltI (a := 400) (by omega) (by omega)).mp c) (by omega)) (fun _ => ?_)
      refine bX1_firstMoment_9 (pX2_isMoment hR1 hI) ?_
      rintro _ im2 ⟨rfl, hk2⟩
      rw [nowW hR1]
      refine bX1_firstMoment_26 (fun c => ?_) (fun c => ?_)
      · refine bX1_firstMoment_31 ?_
        rw [nI_1]
        refine ih (k + 1) im2 (by omega) (hk.tr hk2) ?_
        rw [← hf, firstP_2 (by rw [c]; decide)]
      · have c1 : mom0 s set (s 0 + nI k) = 1 := (momN_01 _ _ _ _).resolve_left c
        refine bX1_firstMoment_29 ?_
        exact hQ _ _ ⟨by rw [← hf]; exact (firstP_1 (c := fun k => mom0 s set (s 0 + nI k)) c1).symm, hk.tr hk2⟩
  refine bX1_firstMoment_0 ?_
  exact key 401 0 im rfl kC.rf rfl
theorem pX1_momentsAmong {d : Nat} {im : XI} {bo : Bool} {s : Nat → Int32} {np nd : Nat} {set v : Int32} {j : Nat} (hR : RI 0 s im) (hI : Iv s np nd) (hv : v = nI j) (hj : j ≤ 1000) : SpI mX1_momentsAmong (d + 6) [.ref 31, .int set, .int v] (SC bo) im (fun x im' => x = moms0 s set j ∧ kC im im') := by
  refine SpI.of [some (.ref 31), some (.int set), some (.int v), none, none] rfl (by decide) rfl (fun Q hQ => ?_)
  subst hv
  have key : ∀ (n k : Nat) (im1 : XI), j < k + n → k ≤ j → kC im im1 → V mX1_momentsAmong (d + 6) (0, 0) 5 [some (.ref 31), some (.int set), some (.int (nI j)), some (.int (moms0 s set k)), some (.int (nI k))] [] (SC bo) im1 Q := by
    intro n
    induction n with
    | zero => intro k im1 a1 a2; omega
    | succ n ih =>
      intro k im1 a1 a2 hk
      have hR1 := hR.kC hI hk
      refine bX1_momentsAmong_5 (fun c => ?_) (fun c => ?_)
      · have := ge_i (by omega) (by omega) c
        obtain rfl : k = j := by omega
        refine bX1_momentsAmong_41 ?_
        exact hQ _ _ ⟨rfl, hk⟩
      · have hlt := lt_i (by omega) (by omega) c
        refine bX1_momentsAmong_11 (pX2_isMoment hR1 hI) ?_
        rintro _ im2 ⟨rfl, hk2⟩
        rw [nowW hR1]
        have hsm : moms0 s set (k + 1) = moms0 s set k + mom0 s set (s 0 + nI k) := rfl
        refine bX1_momentsAmong_29 (fun c2 => ?_) (fun c2 => ?_)
        · rw [c2, Int32.add_zero] at hsm
          refine bX1_momentsAmong_35 ?_
          rw [nI_1, ← hsm]
          exact ih (k + 1) im2 (by omega) (by omega) (hk.tr hk2)
        · have c1 : mom0 s set (s 0 + nI k) = 1 := (momN_01 _ _ _ _).resolve_left c2
          rw [c1] at hsm
          refine bX1_momentsAmong_32 ?_
          refine bX1_momentsAmong_35 ?_
          rw [nI_1, ← hsm]
          exact ih (k + 1) im2 (by omega) (by omega) (hk.tr hk2)
  refine bX1_momentsAmong_0 ?_
  exact key (j + 1) 0 im (by omega) (by omega) kC.rf

theorem pX1_fewestAway {d : Nat} {im : XI} {bo : Bool} {s : Nat → Int32} {np nd : Nat} {a e j : Nat} {v : Int32} (hR : RI 0 s im) (hI : Iv s np nd) (he : e < nd) (ha : a = 22 + e) (hv : v = nI j) (hj : j ≤ 99) : SpI mX1_fewestAway (d + 6) [.ref 31, .ref a, .int v] (SC bo) im (fun x im' => x = away0 s e j ∧ kF im im') := by
  refine SpI.of [some (.ref 31), some (.ref a), some (.int v), none, none, none] rfl (by decide) rfl (fun Q hQ => ?_)
  subst ha; subst hv
  have hnp := hI.1.1
  have hnd := hI.2.1.1
  obtain ⟨wn, hwn, hwe⟩ := (hI.2.1.2.2 e he).2.2
  obtain ⟨C, hC⟩ : ∃ C : Int32 → Int32, C = fun g => done0 s e ((s (34 + 3 * e)) &&& (g ^^^ -1)) j := ⟨_, rfl⟩
  have key : ∀ (n k : Nat) (im1 : XI), wn + 1 < k + n → k ≤ wn + 1 → kF im im1 → (∀ i, i < j → im1 32 i = allT s (s 0 + nI i)) → V mX1_fewestAway (d + 6) (0, 0) 10 [some (.ref 31), some (.ref (22 + e)), some (.int (nI j)), some (.int (awayN (s (34 + 3 * e)) C k)), some (.int (nI k)), none] [] (SC bo) im1 Q := by
    intro n
    induction n with
    | zero => intro k im1 a1 a2; omega
    | succ n ih =>
      intro k im1 a1 a2 hk h32
      have hR1 := hR.kF hI hk
      have d2 := (doW hI hR1 he).2
      refine bX1_fewestAway_10 (xdoing (by omega)) (fun c => ?_) (fun c => ?_)
      · rw [d2, hwe] at c
        have := (nI_ltI (by omega) (by omega)).mp c
        obtain rfl : k = wn + 1 := by omega
        refine bX1_fewestAway_86 ?_
        refine hQ _ _ ⟨?_, hk⟩
        unfold away0
        rw [show nnat (s (34 + 3 * e)) = wn by rw [hwe]; exact nnat_nI (by omega), ← hC]
      · rw [d2, hwe] at c
        have hkw : k ≤ wn := Nat.not_lt.mp (fun h => c ((nI_ltI (by omega) (by omega)).mpr h))
        have hA : awayN (s (34 + 3 * e)) C (k + 1) = if ((nI k &&& ((s (34 + 3 * e)) ^^^ (-1))) = 0 ∧ (awayN (s (34 + 3 * e)) C k = -1 ∨ many0 (nI k) 6 < many0 (awayN (s (34 + 3 * e)) C k) 6)) ∧ ¬ C (nI k) = -1 then nI k else awayN (s (34 + 3 * e)) C k := rfl
        have f80 : ∀ (im2 : XI) (b5 : Int32), kF im im2 → (∀ i, i < j → im2 32 i = allT s (s 0 + nI i)) → V mX1_fewestAway (d + 6) (0, 0) 80 [some (.ref 31), some (.ref (22 + e)), some (.int (nI j)), some (.int (awayN (s (34 + 3 * e)) C (k + 1))), some (.int (nI k)), some (.int b5)] [] (SC bo) im2 Q := by
          intro im2 b5 hk2 h322
          refine bX1_fewestAway_80 ?_
          rw [nI_1]
          exact ih (k + 1) im2 (by omega) (by omega) hk2 h322
        have f40 : ∀ F : Int32, (F = 0 ↔ ¬ (awayN (s (34 + 3 * e)) C k = -1 ∨ many0 (nI k) 6 < many0 (awayN (s (34 + 3 * e)) C k) 6)) → V mX1_fewestAway (d + 6) (0, 0) 40 [some (.ref 31), some (.ref (22 + e)), some (.int (nI j)), some (.int (awayN (s (34 + 3 * e)) C k)), some (.int (nI k)), none] [.int F] (SC bo) im1 Q := by
          intro F hF
          refine bX1_fewestAway_40 (xdoing (by omega)) (fun c2 => ?_) (fun c2 => ?_)
          · rw [d2] at c2
            have := f80 im1 F hk h32
            rw [hA, if_neg (fun g => c2 g.1.1)] at this
            exact this
          · rw [d2] at c2
            refine bX1_fewestAway_54 (fun c3 => ?_) (fun c3 => ?_)
            · have := f80 im1 F hk h32
              rw [hA, if_neg (fun g => (hF.mp c3) g.1.2)] at this
              exact this
            · have c4 : awayN (s (34 + 3 * e)) C k = -1 ∨ many0 (nI k) 6 < many0 (awayN (s (34 + 3 * e)) C k) 6 := Classical.byContradiction (fun g => c3 (hF.mpr g))
              refine bX1_fewestAway_59 (xdoing (by omega)) (pX1_doneBehind (lf := leftN s e ((s (34 + 3 * e)) &&& (nI k ^^^ -1)) (s 0)) (sq := fun i => allT s (s 0 + nI i)) hR1 hI he rfl rfl hj rfl (fun _ _ => by rw [d2]; rfl) (fun i hi => ⟨h32 i hi, allT_nat _ hI⟩)) ?_
              rintro x im2 ⟨hx, hk2⟩
              have hxC : x = C (nI k) := by rw [hx, hC]; rfl
              have hk3 : kF im im2 := hk.tr hk2.F
              have h323 : ∀ i, i < j → im2 32 i = allT s (s 0 + nI i) := fun i hi => (hk2 32 i (by omega)).trans (h32 i hi)
              have hxn : x = -1 ∨ ∃ q : Nat, q < 1000 ∧ x = nI q := by
                rw [hx]
                rcases firstP_nat (c := leftN s e ((s (34 + 3 * e)) &&& (nI k ^^^ -1)) (s 0)) (v := 0) (j + 1) 0 with h | ⟨q, _, h2, h3⟩
                · exact Or.inl h
                · exact Or.inr ⟨q, by omega, h3⟩
              refine bX1_fewestAway_74 (fun c5 => ?_) (fun c5 => ?_)
              · have hm1 : C (nI k) = -1 := by
                  rw [← hxC]
                  rcases hxn with h | ⟨q, hq, h⟩
                  · exact h
                  · rw [h] at c5; exact absurd c5 (nI_pos (by omega))
                have := f80 im2 F hk3 h323
                rw [hA, if_neg (fun g => g.2 hm1)] at this
                exact this
              · have hm1 : ¬ C (nI k) = -1 := by
                  rw [← hxC]
                  intro h
                  rw [h] at c5
                  exact c5 (by decide)
                refine bX1_fewestAway_77 ?_
                have := f80 im2 F hk3 h323
                rw [hA, if_pos ⟨⟨c2, c4⟩, hm1⟩] at this
                exact this
        refine bX1_fewestAway_19 (fun c2 => ?_) (fun c2 => ?_)
        · have h1 : awayN (s (34 + 3 * e)) C k = -1 := by
            rcases awayN_nat (w := (s (34 + 3 * e))) (c := C) k with h | ⟨g, hg, h⟩
            · exact h
            · rw [h] at c2; exact absurd c2 (nI_pos (by omega))
          refine bX1_fewestAway_35 ?_
          exact f40 1 ⟨fun h => absurd h (by decide), fun h => absurd (Or.inl h1) h⟩
        · obtain ⟨g, hg, hge⟩ : ∃ g, g < k ∧ awayN (s (34 + 3 * e)) C k = nI g := by
            rcases awayN_nat (w := (s (34 + 3 * e))) (c := C) k with h | h
            · rw [h] at c2; exact absurd (by decide) c2
            · exact h
          have hn1 : ¬ awayN (s (34 + 3 * e)) C k = -1 := by rw [hge]; exact nI_nm1 (by omega)
          refine bX1_fewestAway_23 (pJ6_bitCount_0f7a4 rfl (by omega)) ?_
          rintro _ _ ⟨rfl, rfl⟩
          refine bX1_fewestAway_28 (pJ6_bitCount_0f7a4 hge (by omega)) ?_
          rintro _ _ ⟨rfl, rfl⟩
          refine bX1_fewestAway_32 (fun c3 => ?_) (fun c3 => ?_)
          · refine bX1_fewestAway_39 ?_
            refine f40 0 ⟨fun _ h => ?_, fun _ => rfl⟩
            rcases h with h | h
            · exact hn1 h
            · rw [i_lt] at h; rw [i_le] at c3; omega
          · refine bX1_fewestAway_35 ?_
            refine f40 1 ⟨fun h => absurd h (by decide), fun h => absurd (Or.inr ?_) h⟩
            rw [i_lt]; rw [i_le] at c3; omega
  refine bX1_fewestAway_0 (pX1_lookAhead hR hI rfl hj) ?_
  rintro im1 ⟨h32, hk⟩
  refine bX1_fewestAway_5 ?_
  exact key (wn + 2) 0 im1 (by omega) (by omega) hk h32
theorem pX1_tryPhase {d : Nat} {im : XI} {bo : Bool} {s : Nat → Int32} {np nd : Nat} {p : Nat} {p0 w f v1 : Int32} (hR : RI 0 s im) (hI : Iv s np nd) (hp0 : p0 = nI p) (hp : p < np) (hw : w = s (10 + 4 * p)) (h32 : ∀ i, i < 99 → im 32 i = allT (upd s (11 + 4 * p) v1) (s 0 + nI i)) : SpV mX1_tryPhase (d + 4) [.ref 31, .int p0, .int w, .int f] (SC bo) im (fun im' => (∀ i, i < 99 → im' 32 i = allT (upd s (11 + 4 * p) f) (s 0 + nI i)) ∧ kF im im' ∧ im' 31 = im 31) := by
  refine SpV.of [some (.ref 31), some (.int p0), some (.int w), some (.int f), none, none, none] rfl (by decide) rfl (fun Q hQ => ?_)
  subst hp0; subst hw
  have hnp := hI.1.1
  obtain ⟨b, hb0, hb, hbe⟩ := (hI.1.2.2 p hp).2
  have xa : XA (SC bo) 32 99 := by cases bo <;> exact ⟨rfl, rfl⟩
  have key : ∀ (n k : Nat) (im1 : XI), 99 < k + n → k ≤ 99 → kF im im1 → im1 31 = im 31 → (∀ i, i < k → im1 32 i = allT (upd s (11 + 4 * p) f) (s 0 + nI i)) → (∀ i, k ≤ i → i < 99 → im1 32 i = allT (upd s (11 + 4 * p) v1) (s 0 + nI i)) → V mX1_tryPhase (d + 4) (0, 0) 8 [some (.ref 31), some (.int (nI p)), some (.int (s (10 + 4 * p))), some (.int f), some (.int (1 <<< (nI p &&& 31))), some (.int (nI k)), none] [] (SC bo) im1 Q := by
    intro n
    induction n with
    | zero => intro k im1 a1 a2; omega
    | succ n ih =>
      intro k im1 a1 a2 hk h31 hlo hhi
      have hR1 := hR.kF hI hk
      refine bX1_tryPhase_8 (fun c => ?_) (fun c => ?_)
      · have := ge_i (a := 99) (by omega) (by omega) c
        obtain rfl : k = 99 := by omega
        refine bX1_tryPhase_80 ?_
        exact hQ _ ⟨hlo, hk, h31⟩
      · have hlt := lt_i (a := 99) (by omega) (by omega) c
        refine bX1_tryPhase_15 (pX2_isShutBy hR1 hI rfl hp hbe hb0 hb) ?_
        rintro _ im2 ⟨rfl, hk2⟩
        rw [nowW hR1]
        have e32 : im2 32 k = allT (upd s (11 + 4 * p) v1) (s 0 + nI k) := (hk2 32 k (by omega)).trans (hhi k (by omega) hlt)
        have hset := allT_p (v := f) (v1 := v1) (t := s 0 + nI k) hI hp
        have go : ∀ z g : Int32, z = allT (upd s (11 + 4 * p) f) (s 0 + nI k) → V mX1_tryPhase (d + 4) (0, 0) 73 [some (.ref 31), some (.int (nI p)), some (.int (s (10 + 4 * p))), some (.int f), some (.int (1 <<< (nI p &&& 31))), some (.int (nI k)), some (.int g)] [.int z, .int (nI k), .ref 32] (SC bo) im2 Q := by
          intro z g hz
          refine bX1_tryPhase_73 xa rfl hlt ?_
          rw [nI_1]
          refine ih (k + 1) _ (by omega) (by omega) ((hk.tr hk2.F).up (by omega)) (by rw [xup_o (by decide), hk2.e 31 (by omega)]; exact h31) ?_ ?_
          · intro i hi
            by_cases hik : i = k
            · subst hik; rw [xup_at, hz]
            · rw [xup_ne hik, hk2 32 i (by omega)]
              exact hlo i (by omega)
          · intro i hi hi2
            rw [xup_ne (by omega), hk2 32 i (by omega)]
            exact hhi i (by omega) hi2
        refine bX1_tryPhase_35 (fun c2 => ?_) (fun c2 => ?_)
        · refine bX1_tryPhase_61 rfl hlt ?_
          exact go _ _ (by rw [e32, hset, if_neg (by rw [c2]; decide)])
        · have c3 := (shutG_01 s p (s 0 + nI k) (s (10 + 4 * p)) f).resolve_left c2
          refine bX1_tryPhase_48 rfl hlt ?_
          exact go _ _ (by rw [e32, hset, if_pos c3])
  refine bX1_tryPhase_0 ?_
  exact key 100 0 im (by omega) (by omega) kF.rf rfl (fun i hi => absurd hi (Nat.not_lt_zero i)) (fun i _ hi => h32 i hi)
theorem pX1_findPhase {d : Nat} {im : XI} {bo : Bool} {s : Nat → Int32} {np nd : Nat} {a e p : Nat} {p0 : Int32} (hR : RI 0 s im) (hI : Iv s np nd) (he : e < nd) (hp0 : p0 = nI p) (hp : p < np) (ha : a = 22 + e) : SpI mX1_findPhase (d + 6) [.ref 31, .int p0, .ref a] (SC bo) im (fun x im' => x = b2i (¬ (phase0 s p e).1 = -1) ∧ (¬ (phase0 s p e).1 = -1 → im' 31 2 = (phase0 s p e).1 ∧ im' 31 3 = (phase0 s p e).2) ∧ kF im im') := by
  refine SpI.of [some (.ref 31), some (.int p0), some (.ref a), none, none, none, none] rfl (by decide) rfl (fun Q hQ => ?_)
  subst hp0; subst ha
  have hnp := hI.1.1
  have hnd := hI.2.1.1
  obtain ⟨b, hb0, hb, hbe⟩ := (hI.1.2.2 p hp).2
  obtain ⟨C, hC⟩ : ∃ C : Nat → Int32, C = (fun f => done0 (upd s (11 + 4 * p) (nI f)) e (s (34 + 3 * e)) 99) := ⟨_, rfl⟩
  have hph : phase0 s p e = phN C b := by unfold phase0; rw [hbe, nnat_nI (by omega), ← hC]
  have hok : okP s (nI p) := by
    show 0 ≤ nI p ∧ nI p ≤ s 4 - 1
    rw [hI.1.2.1]
    exact (in_n (by omega)).mpr ⟨p, hp, rfl⟩
  have key : ∀ (n k : Nat) (im1 : XI) (v1 : Int32), b < k + n → k ≤ b → kF im im1 → (∀ i, i < 99 → im1 32 i = allT (upd s (11 + 4 * p) v1) (s 0 + nI i)) → ((phN C k).1 = -1 → (phN C k).2 = 100) → (¬ (phN C k).1 = -1 → im1 31 2 = (phN C k).1 ∧ im1 31 3 = (phN C k).2) → V mX1_findPhase (d + 6) (0, 0) 40 [some (.ref 31), some (.int (nI p)), some (.ref (22 + e)), some (.int (b2i (¬ (phN C k).1 = -1))), some (.int (nI b)), some (.int (nI k)), none] [] (SC bo) im1 Q := by
    intro n
    induction n with
    | zero => intro k im1 v1 a1 a2; omega
    | succ n ih =>
      intro k im1 v1 a1 a2 hk h32 hz hf
      have hR1 := hR.kF hI hk
      refine bX1_findPhase_40 (fun c => ?_) (fun c => ?_)
      · have := ge_i (by omega) (by omega) c
        obtain rfl : k = b := by omega
        refine bX1_findPhase_107 (b2i_01 _) ?_
        exact hQ _ _ ⟨by rw [hph], by rw [hph]; exact hf, hk⟩
      · have hlt := lt_i (by omega) (by omega) c
        refine bX1_findPhase_47 (pX1_tryPhase hR1 hI rfl hp hbe.symm h32) ?_
        rintro im2 ⟨h322, hk2, h31e⟩
        have hk12 := hk.tr hk2
        have hR2 := hR.kF hI hk12
        refine bX1_findPhase_56 (xdoing (by omega)) (pX1_doneBehind (j := 99) (lf := leftN (upd s (11 + 4 * p) (nI k)) e (s (34 + 3 * e)) (s 0)) (sq := fun i => allT (upd s (11 + 4 * p) (nI k)) (s 0 + nI i)) hR2 hI he rfl rfl (by omega) (upd_ne (by omega)) (fun i _ => by rw [(doW hI hR2 he).2]; exact stepL_p hI (by omega) he) (fun i hi => ⟨h322 i hi, allT_nat (np := np) (nd := nd) _ (Iv_free hI (Or.inr (Or.inr (Or.inl ⟨p, by omega, Or.inr rfl⟩))))⟩)) ?_
        rintro x im3 ⟨hx, hk3⟩
        have hxC : x = C k := by
          rw [hx, hC]
          show _ = firstP (leftN (upd s (11 + 4 * p) (nI k)) e (s (34 + 3 * e)) (upd s (11 + 4 * p) (nI k) 0)) 0 (99 + 1) 0
          rw [upd_ne (j := 0) (by omega)]
        have hxn : x = -1 ∨ ∃ q : Nat, q < 100 ∧ x = nI q := by
          rw [hx]
          rcases firstP_nat (c := leftN (upd s (11 + 4 * p) (nI k)) e (s (34 + 3 * e)) (s 0)) (v := 0) (99 + 1) 0 with h | ⟨q, _, h2, h3⟩
          · exact Or.inl h
          · exact Or.inr ⟨q, by omega, h3⟩
        have hk4 : kF im im3 := hk12.tr hk3.F
        have h324 : ∀ i, i < 99 → im3 32 i = allT (upd s (11 + 4 * p) (nI k)) (s 0 + nI i) := fun i hi => (hk3 32 i (by omega)).trans (h322 i hi)
        have hP : phN C (k + 1) = if ¬ C k = -1 ∧ C k < (phN C k).2 then (nI k, C k) else phN C k := rfl
        have f101 : ∀ (im4 : XI), kF im im4 → (∀ i, i < 99 → im4 32 i = allT (upd s (11 + 4 * p) (nI k)) (s 0 + nI i)) → ((phN C (k + 1)).1 = -1 → (phN C (k + 1)).2 = 100) → (¬ (phN C (k + 1)).1 = -1 → im4 31 2 = (phN C (k + 1)).1 ∧ im4 31 3 = (phN C (k + 1)).2) → ∀ z6 : Int32, V mX1_findPhase (d + 6) (0, 0) 101 [some (.ref 31), some (.int (nI p)), some (.ref (22 + e)), some (.int (b2i (¬ (phN C (k + 1)).1 = -1))), some (.int (nI b)), some (.int (nI k)), some (.int z6)] [] (SC bo) im4 Q := by
          intro im4 hk5 h325 hz2 hf2 z6
          refine bX1_findPhase_101 ?_
          rw [nI_1]
          exact ih (k + 1) im4 _ (by omega) (by omega) hk5 h325 hz2 hf2
        have hstay : phN C (k + 1) = phN C k → ∀ z6 : Int32, V mX1_findPhase (d + 6) (0, 0) 101 [some (.ref 31), some (.int (nI p)), some (.ref (22 + e)), some (.int (b2i (¬ (phN C k).1 = -1))), some (.int (nI b)), some (.int (nI k)), some (.int z6)] [] (SC bo) im3 Q := by
          intro hE z6
          have h31 : ∀ i, im3 31 i = im1 31 i := fun i => (hk3 31 i (by omega)).trans (congrFun h31e i)
          have := f101 im3 hk4 h324 (by rw [hE]; exact hz) (by rw [hE, h31, h31]; exact hf) z6
          rw [hE] at this
          exact this
        have htake : phN C (k + 1) = (nI k, C k) → ∀ z3 : Int32, V mX1_findPhase (d + 6) (0, 0) 87 [some (.ref 31), some (.int (nI p)), some (.ref (22 + e)), some (.int z3), some (.int (nI b)), some (.int (nI k)), some (.int x)] [] (SC bo) im3 Q := by
          intro hE z3
          refine bX1_findPhase_87 ?_
          have hne : ¬ (phN C (k + 1)).1 = -1 := by rw [hE]; exact nI_nm1 (by omega)
          have := f101 (xup (xup im3 31 2 (nI k)) 31 3 x) ((hk4.up (by omega)).up (by omega)) (fun i hi => by rw [xup_o (by decide), xup_o (by decide)]; exact h324 i hi) (fun h => absurd h hne) (fun _ => by rw [hE]; exact ⟨by rw [xup_ne (by decide), xup_at], by rw [xup_at, hxC]⟩) x
          rw [b2i_t hne] at this
          exact this
        refine bX1_findPhase_67 (fun c2 => ?_) (fun c2 => ?_)
        · have hm1 : C k = -1 := by
            rw [← hxC]
            rcases hxn with h | ⟨q, hq, h⟩
            · exact h
            · rw [h] at c2; exact absurd c2 (nI_pos (by omega))
          exact hstay (by rw [hP, if_neg (fun g => g.1 hm1)]) _
        · have hm1 : ¬ C k = -1 := by
            rw [← hxC]
            intro h
            rw [h] at c2
            exact c2 (by decide)
          obtain ⟨q, hq, hqe⟩ := hxn.resolve_left (fun h => hm1 (hxC ▸ h))
          refine bX1_findPhase_74 (fun c3 => ?_) (fun c3 => ?_)
          · rw [b2i_z, Classical.not_not] at c3
            exact htake (by rw [hP, if_pos ⟨hm1, by rw [hz c3, ← hxC, hqe]; exact (nI_ltI (b := 100) (by omega) (by omega)).mpr hq⟩]) _
          · rw [b2i_nz] at c3
            have h31 : ∀ i, im3 31 i = im1 31 i := fun i => (hk3 31 i (by omega)).trans (congrFun h31e i)
            refine bX1_findPhase_78 (fun c4 => ?_) (fun c4 => ?_)
            · rw [h31, (hf c3).2, hxC] at c4
              exact hstay (by rw [hP, if_neg (fun g => by have := g.2; rw [i_lt] at this; rw [i_le] at c4; omega)]) _
            · rw [h31, (hf c3).2, hxC] at c4
              exact htake (by rw [hP, if_pos ⟨hm1, by rw [i_lt]; rw [i_le] at c4; omega⟩]) _
  refine bX1_findPhase_0 (pX2_hasPerson hR) ?_
  rintro x im1 ⟨hx, hmm⟩
  subst hmm
  refine bX1_findPhase_10 (fun h => absurd hok (by rw [hx, b2i_z] at h; exact h)) (fun _ => ?_)
  refine bX1_findPhase_13 rfl (by omega) ?_
  rw [(hR.per hI hp).2.2.1, hbe]
  refine bX1_findPhase_29 (pX1_lookAhead (j := 99) hR hI rfl (by omega)) ?_
  rintro im1 ⟨h32, hk⟩
  refine bX1_findPhase_37 ?_
  exact key (b + 1) 0 im1 (s (11 + 4 * p)) (by omega) (by omega) hk (fun i hi => by rw [upd_self rfl]; exact h32 i hi) (fun _ => rfl) (fun h => absurd rfl h)

theorem Iv.x {s : Nat → Int32} {np nd : Nat} (h : Iv s np nd) : IvX s := ⟨np, nd, h⟩
theorem ivE {s : Nat → Int32} {np nd e : Nat} (h : Iv s np nd) : IvX (rE e s).2.2 := h.x
theorem iv_ite {c : Prop} [Decidable c] {a b : R3} (ha : c → IvX a.2.2) (hb : ¬ c → IvX b.2.2) : IvX (if c then a else b).2.2 := by
  by_cases h : c
  · rw [if_pos h]; exact ha h
  · rw [if_neg h]; exact hb h
theorem nn_of {p : Prop} [Decidable p] (h : ¬ ¬ p) : p := Classical.not_not.mp h
theorem iv_person {s : Nat → Int32} {np nd : Nat} {km b f : Int32} (hI : Iv s np nd) : IvX (opPerson s km b f).2.2 := by
  unfold opPerson
  refine iv_ite (fun _ => hI.x) (fun h => iv_ite (fun _ => hI.x) (fun h2 => ?_))
  have hnp := hI.1.1
  have h6 : np < 6 := by
    rcases Nat.lt_or_ge np 6 with g | g
    · exact g
    · exact absurd (by rw [hI.1.2.1, show np = 6 by omega]; rfl) h2
  rw [nnp hI]
  exact (Iv_newP hI h6 (nn_of h).1 (nn_of h).2).x
theorem iv_p {s : Nat → Int32} {np nd : Nat} {v : Int32} (hI : Iv s np nd) (h : okP s v) : nnat v < 6 ∧ nnat v < np := by
  obtain ⟨p, hp, rfl⟩ := (in_n (n := np) (by have := hI.1.1; omega)).mp (show 0 ≤ v ∧ v ≤ nI np - 1 by rw [← hI.1.2.1]; exact h)
  have hnp := hI.1.1
  rw [nnat_nI (by omega)]
  exact ⟨by omega, hp⟩
theorem iv_d {s : Nat → Int32} {np nd : Nat} {v : Int32} (hI : Iv s np nd) (h : okD s v) : nnat v < 6 ∧ nnat v < nd := by
  obtain ⟨p, hp, rfl⟩ := (in_n (n := nd) (by have := hI.2.1.1; omega)).mp (show 0 ≤ v ∧ v ≤ nI nd - 1 by rw [← hI.2.1.2.1]; exact h)
  have hnd := hI.2.1.1
  rw [nnat_nI (by omega)]
  exact ⟨by omega, hp⟩
theorem iv_become {s : Nat → Int32} {np nd : Nat} {v km : Int32} (hI : Iv s np nd) : IvX (opBecome s v km).2.2 := by
  unfold opBecome
  refine iv_ite (fun _ => hI.x) (fun h => ?_)
  obtain ⟨h1, h2⟩ := nn_of h
  obtain ⟨k, hk, hke⟩ := km_nat h2
  have hp := iv_p hI h1
  show IvX (upd (upd s _ _) _ (km / 10))
  rw [hke]
  exact (Iv_kind (Iv_free hI (Or.inr (Or.inr (Or.inl ⟨nnat v, hp.1, Or.inl rfl⟩)))) hp.1 hk).x
theorem iv_beats {s : Nat → Int32} {np nd : Nat} {v b f : Int32} (hI : Iv s np nd) : IvX (opBeats s v b f).2.2 := by
  unfold opBeats
  refine iv_ite (fun _ => hI.x) (fun h => ?_)
  obtain ⟨h1, h2⟩ := nn_of h
  obtain ⟨k, hk0, hk, hke⟩ := bt_nat h2
  have hp := iv_p hI h1
  show IvX (upd (upd s _ _) _ b)
  rw [hke]
  exact (Iv_beat (Iv_free hI (Or.inr (Or.inr (Or.inl ⟨nnat v, hp.1, Or.inr rfl⟩)))) hp.1 hk0 hk).x
theorem iv_doing {s : Nat → Int32} {np nd : Nat} {v q w : Int32} (hI : Iv s np nd) : IvX (opDoing s v q w).2.2 := by
  unfold opDoing
  refine iv_ite (fun _ => hI.x) (fun h => iv_ite (fun _ => hI.x) (fun h2 => ?_))
  have hnd := hI.2.1.1
  have h6 : nd < 6 := by
    rcases Nat.lt_or_ge nd 6 with g | g
    · exact g
    · exact absurd (by rw [hI.2.1.2.1, show nd = 6 by omega]; rfl) h2
  rw [nnd hI]
  obtain ⟨c1, c2, c3, _⟩ := nn_of h
  exact (Iv_newD hI h6 c1 c2 c3).x
theorem iv_sets {s : Nat → Int32} {np nd : Nat} {v q : Int32} (hI : Iv s np nd) : IvX (opSets s v q).2.2 := by
  unfold opSets
  refine iv_ite (fun _ => hI.x) (fun h => ?_)
  obtain ⟨h1, h2⟩ := nn_of h
  obtain ⟨a, ha, hae⟩ := (in_c (x := q) (n := 99) rfl (by decide)).mp h2
  show IvX (upd s _ q)
  rw [hae]
  exact (Iv_parts hI (iv_d hI h1).1 ha).x
theorem iv_feed {s : Nat → Int32} {np nd : Nat} {by0 : Nat → Int32} {n : Int32} (hI : Iv s np nd) : IvX (opFeed s by0 n).2.2 := by
  unfold opFeed
  refine iv_ite (fun _ => hI.x) (fun h => iv_ite (fun _ => hI.x) (fun h2 => ?_))
  obtain ⟨n2, hn2, e2, m2⟩ := nn2 hI
  obtain ⟨j, hj1, hj8, rfl⟩ := (in_ab (x := n) (a := 1) (n := 8) rfl rfl (by decide) (by decide)).mp (nn_of h)
  have h2 := nn_of h2
  rw [e2, nI_add] at h2
  have h60 := ge_i (b := 60) (by omega) (by omega) h2
  show IvX (fd0 s by0 (nnat (nI j)))
  rw [nnat_nI (by omega)]
  refine (Iv_rows hI (fun k h1 _ h3 => fd0_o h1 (by rw [m2]; omega)) ⟨n2 + j, h60, fd0_2 e2 hn2 j⟩ ?_).x
  rw [fd0_o (by omega) (by rw [m2]; omega)]
  exact hI.2.2.2.1
theorem iv_0 {s : Nat → Int32} {np nd : Nat} (hI : Iv s np nd) : Iv (upd s 2 0) np nd := Iv_rows hI (fun k h1 _ _ => upd_ne h1) ⟨0, by omega, upd_at⟩ (by rw [upd_ne (by omega)]; exact hI.2.2.2.1)
theorem iv_text {s : Nat → Int32} {np nd : Nat} {v : Int32} (hI : Iv s np nd) : IvX (opText s v).2.2 := by
  unfold opText
  refine iv_ite (fun _ => hI.x) (fun h => ?_)
  obtain ⟨u, hu1, rfl⟩ := (in_c (x := v) (n := 1) rfl (by decide)).mp (nn_of h)
  rw [nnat_nI (by omega)]
  obtain ⟨n, hn, e2, m2⟩ := nn2 hI
  obtain ⟨hr, k1, k2, k3⟩ := prT_ok (s := s) (u := u) e2 hn
  obtain ⟨r, her⟩ : ∃ r, prT s u = r := ⟨_, rfl⟩
  rw [her] at k1 k2 k3 ⊢
  obtain ⟨b, o⟩ := r
  cases o with
  | none => exact (iv_0 hI).x
  | some l =>
    obtain ⟨q1, q2, q3⟩ := k3 l rfl
    show IvX (if nI b = s 2 then rO 1 (textS s u l) else rO (-10 - nI b) (upd s 2 0)).2.2
    refine iv_ite (fun _ => (Iv_text hI (by omega) ?_ (q3 0)).x) (fun _ => (iv_0 hI).x)
    have k2 : b ≤ n := k2
    have q1 : l.length + 0 ≤ b := q1
    omega
theorem iv_untell {s : Nat → Int32} {np nd : Nat} {v : Int32} (hI : Iv s np nd) : IvX (opUntell s v).2.2 := by
  unfold opUntell
  refine iv_ite (fun _ => hI.x) (fun h => ?_)
  obtain ⟨u, hu1, rfl⟩ := (in_c (x := v) (n := 1) rfl (by decide)).mp (nn_of h)
  rw [nnat_nI (by omega)]
  exact (Iv_untell hI (by omega)).x
theorem iv_run {f : (Nat → Int32) → Nat → Int32} {g : (Nat → Int32) → Int32} {s : Nat → Int32} {np nd : Nat} {n most : Int32} (hf : ∀ s, Iv s np nd → Iv (f s) np nd) (hI : Iv s np nd) : IvX (opRun f g s n most).2.2 := by
  unfold opRun
  exact iv_ite (fun _ => hI.x) (fun _ => iv_ite (fun _ => hI.x) (fun _ => (run1_Iv hf hI _).x))
theorem iv_ticks {s : Nat → Int32} {np nd : Nat} {n : Int32} (hI : Iv s np nd) : IvX (opTicks s n).2.2 := iv_run (fun s h => tick1_Iv h) hI
theorem iv_loose {s : Nat → Int32} {np nd : Nat} {n : Int32} (hI : Iv s np nd) : IvX (opLoose s n).2.2 := iv_run (fun s h => tick1_Iv (shift1_Iv h)) hI
theorem iv_tick {s : Nat → Int32} {np nd : Nat} {v : Int32} (hI : Iv s np nd) : IvX (opTick s v).2.2 := by
  unfold opTick
  exact iv_ite (fun _ => hI.x) (fun _ => (Iv_free hI (Or.inl rfl)).x)
theorem iv_seed {s : Nat → Int32} {np nd : Nat} {v : Int32} (hI : Iv s np nd) : IvX (opSeed s v).2.2 := (Iv_free hI (Or.inr (Or.inl rfl))).x
theorem iv_tell {s : Nat → Int32} {np nd : Nat} {v : Int32} (hI : Iv s np nd) : IvX (opTell s v).2.2 := by
  unfold opTell
  refine iv_ite (fun _ => hI.x) (fun h => ?_)
  obtain ⟨n3, hn3, e3, m3⟩ := nn3 hI
  have h24 : n3 < 24 := by
    rcases Nat.lt_or_ge n3 24 with g | g
    · exact g
    · exact absurd (by rw [e3, show n3 = 24 by omega]; rfl) h
  show IvX (upd (upd s (360 + nnat (s 3)) v) 3 (s 3 + 1))
  refine (Iv_rows hI (fun k h1 h2 h3 => by rw [upd_ne h2, upd_ne (by omega)]) ?_ ⟨n3 + 1, by omega, ?_⟩).x
  · rw [upd_ne (by omega), upd_ne (by omega)]; exact hI.2.2.1
  · rw [upd_at, e3, nI_1]
theorem iv_check {s : Nat → Int32} {np nd : Nat} (hI : Iv s np nd) : IvX (opCheck s).2.2 := by
  show IvX (upd s 3 0)
  exact (Iv_rows hI (fun k h1 h2 h3 => upd_ne h2) (by rw [upd_ne (by omega)]; exact hI.2.2.1) ⟨0, by omega, upd_at⟩).x
theorem iv_partsAll {s : Nat → Int32} {np nd : Nat} {bs ss nu : Nat → Int32} {z : Int32} (hI : Iv s np nd) : IvX (opPartsAll s bs ss nu z).2.2 := by
  unfold opPartsAll
  exact iv_ite (fun _ => hI.x) (fun _ => iv_ite (fun _ => hI.x) (fun _ => (Iv_paR 7 0 s hI).x))
-- those that leave the row as it was
theorem iv_personIs {s : Nat → Int32} {np nd : Nat} {v w : Int32} (hI : Iv s np nd) : IvX (opPersonIs s v w).2.2 := by
  unfold opPersonIs; exact iv_ite (fun _ => hI.x) (fun _ => hI.x)
theorem iv_as {s : Nat → Int32} {np nd : Nat} {v w : Int32} (hI : Iv s np nd) : IvX (opAs s v w).2.2 := by
  unfold opAs; exact iv_ite (fun _ => hI.x) (fun _ => iv_ite (fun _ => hI.x) (fun _ => hI.x))
theorem iv_doingIs {s : Nat → Int32} {np nd : Nat} {v w : Int32} (hI : Iv s np nd) : IvX (opDoingIs s v w).2.2 := by
  unfold opDoingIs; exact iv_ite (fun _ => hI.x) (fun _ => hI.x)
theorem iv_shut {s : Nat → Int32} {np nd : Nat} (hI : Iv s np nd) : IvX (opShut s).2.2 := hI.x
theorem iv_law {s : Nat → Int32} {np nd : Nat} {v a b c : Int32} (hI : Iv s np nd) : IvX (opLaw s v a b c).2.2 := by
  unfold opLaw; exact iv_ite (fun _ => hI.x) (fun _ => hI.x)
theorem iv_then {s : Nat → Int32} {np nd : Nat} {v n : Int32} (hI : Iv s np nd) : IvX (opThen s v n).2.2 := by
  unfold opThen; exact iv_ite (fun _ => hI.x) (fun _ => hI.x)
theorem iv_soonest {s : Nat → Int32} {np nd : Nat} {v : Int32} (hI : Iv s np nd) : IvX (opSoonest s v).2.2 := by
  unfold opSoonest; exact iv_ite (fun _ => hI.x) (fun _ => iv_ite (fun _ => hI.x) (fun _ => hI.x))
theorem iv_moment {s : Nat → Int32} {np nd : Nat} {v : Int32} (hI : Iv s np nd) : IvX (opMoment s v).2.2 := by
  unfold opMoment; exact iv_ite (fun _ => hI.x) (fun _ => iv_ite (fun _ => hI.x) (fun _ => hI.x))
theorem iv_moments {s : Nat → Int32} {np nd : Nat} {v n : Int32} (hI : Iv s np nd) : IvX (opMoments s v n).2.2 := by
  unfold opMoments; exact iv_ite (fun _ => hI.x) (fun _ => hI.x)
theorem iv_away {s : Nat → Int32} {np nd : Nat} {v n w : Int32} (hI : Iv s np nd) : IvX (opAway s v n w).2.2 := by
  unfold opAway; exact iv_ite (fun _ => hI.x) (fun _ => iv_ite (fun _ => hI.x) (fun _ => hI.x))
theorem iv_phaseFor {s : Nat → Int32} {np nd : Nat} {v e w : Int32} (hI : Iv s np nd) : IvX (opPhaseFor s v e w).2.2 := by
  unfold opPhaseFor; exact iv_ite (fun _ => hI.x) (fun _ => iv_ite (fun _ => hI.x) (fun _ => hI.x))
theorem iv_odds {s : Nat → Int32} {np nd : Nat} {v n w : Int32} (hI : Iv s np nd) : IvX (opOdds s v n w).2.2 := by
  unfold opOdds; exact iv_ite (fun _ => hI.x) (fun _ => hI.x)
theorem iv_fits {s : Nat → Int32} {np nd : Nat} {bs ss nu : Nat → Int32} {z v w : Int32} (hI : Iv s np nd) : IvX (opFits s bs ss nu z v w).2.2 := by
  unfold opFits; exact iv_ite (fun _ => hI.x) (fun _ => iv_ite (fun _ => hI.x) (fun _ => iv_ite (fun _ => hI.x) (fun _ => iv_ite (fun _ => hI.x) (fun _ => hI.x))))
theorem iv_judge {s : Nat → Int32} {np nd : Nat} {bs ss nu : Nat → Int32} {z : Int32} (hI : Iv s np nd) : IvX (opJudge s bs ss nu z).2.2 := by
  unfold opJudge; exact iv_ite (fun _ => hI.x) (fun _ => iv_ite (fun _ => hI.x) (fun _ => hI.x))
theorem iv_body {s : Nat → Int32} {np nd : Nat} {n : Int32} {t : Nat → Int32} {i : Int32} (hI : Iv s np nd) : IvX (opBody n t s i).2.2 := by
  unfold opBody; exact iv_ite (fun _ => hI.x) (fun _ => hI.x)
theorem iv_told {s : Nat → Int32} {np nd : Nat} {e : Nat → Int32} {k : Int32} (hI : Iv s np nd) : IvX (opTold s e k).2.2 := by
  unfold opTold; exact iv_ite (fun _ => hI.x) (fun _ => hI.x)
theorem iv_count {s : Nat → Int32} {np nd : Nat} {t w : Int32} (hI : Iv s np nd) : IvX (opCount s t w).2.2 := by
  unfold opCount
  exact iv_ite (fun _ => hI.x) (fun _ => iv_ite (fun _ => hI.x) (fun _ => iv_ite (fun _ => hI.x) (fun _ => iv_ite (fun _ => hI.x) (fun _ => iv_ite (fun _ => hI.x) (fun _ => iv_ite (fun _ => hI.x) (fun _ => iv_ite (fun _ => hI.x) (fun _ => iv_ite (fun _ => hI.x) (fun _ => hI.x))))))))

theorem qX10_isPerson {d : Nat} {im : XI} {s : Nat → Int32} {v : Int32} (hs : im 1 = s) : SpI mX10_isPerson (d + 1) [.ref 0, .int v] SM im (fun x im' => x = b2i (okP s v) ∧ im = im') := by subst hs; exact pX10_isPerson
theorem qX10_isDoing {d : Nat} {im : XI} {s : Nat → Int32} {v : Int32} (hs : im 1 = s) : SpI mX10_isDoing (d + 1) [.ref 0, .int v] SM im (fun x im' => x = b2i (okD s v) ∧ im = im') := by subst hs; exact pX10_isDoing
theorem qX10_isSet {d : Nat} {im : XI} {s : Nat → Int32} {v : Int32} (hs : im 1 = s) : SpI mX10_isSet (d + 1) [.ref 0, .int v] SM im (fun x im' => x = b2i (okSet s v) ∧ im = im') := by subst hs; exact pX10_isSet
theorem pX10_tick {d : Nat} {im : XI} {s : Nat → Int32} {np nd : Nat} {v : Int32} (hs : im 1 = s) (hI : Iv s np nd) : SpI mX10_tick (d + 1) [.ref 0, .int v] SM im (fun x im' => Pm im (opTick s v) x im') := by
  refine SpI.of [some (.ref 0), some (.int v)] rfl (by decide) rfl (fun Q hQ => ?_)
  have h4 := hI.1.2.1
  have hnp := hI.1.1
  have h5 := hI.2.1.2.1
  have hnd := hI.2.1.1
  refine bX10_tick_0   pX10_in ?_
  rintro _ _ ⟨rfl, rfl⟩
  try simp only [hs]
  refine bX10_tick_7   (fun c2 => ?_) (fun c2 => ?_)
  · skip
    try simp only [b2i_z, Classical.not_not, okP, okD, okSet, hs] at c2
    refine bX10_tick_19   (pX10_error (k := 1) rfl (by decide)) ?_
    rintro _ _ ⟨rfl, rfl⟩
    try simp only [hs]
    refine bX10_tick_24   ?_
    refine hQ _ _ ?_
    first
      | (rw [show opTick s v = rE _ s from by unfold opTick; rw [if_pos (by grind)]]; exact Pm.er rfl hs mk.rf (by decide))
      | (rw [show opTick s v = rE _ s from by unfold opTick; rw [if_neg (by grind), if_pos (by grind)]]; exact Pm.er rfl hs mk.rf (by decide))
  · skip
    try simp only [b2i_z, Classical.not_not, okP, okD, okSet, hs] at c2
    refine bX10_tick_10   (qX10_change1 (i := 0) hs rfl (by decide)) ?_
    rintro _ im4 ⟨rfl, hs4, hm4⟩
    try simp only [hs4]
    refine bX10_tick_16   ?_
    refine bX10_tick_24   ?_
    refine hQ _ _ ?_
    unfold opTick
    rw [if_neg (by grind)]
    exact Pm.ok rfl hs4 ((mk.rf).tr hm4)
theorem pX10_seed {d : Nat} {im : XI} {s : Nat → Int32} {np nd : Nat} {v : Int32} (hs : im 1 = s) (hI : Iv s np nd) : SpI mX10_seed (d + 1) [.ref 0, .int v] SM im (fun x im' => Pm im (opSeed s v) x im') := by
  refine SpI.of [some (.ref 0), some (.int v)] rfl (by decide) rfl (fun Q hQ => ?_)
  have h4 := hI.1.2.1
  have hnp := hI.1.1
  have h5 := hI.2.1.2.1
  have hnd := hI.2.1.1
  refine bX10_seed_0   (qX10_change1 (i := 1) hs rfl (by decide)) ?_
  rintro _ im1 ⟨rfl, hs1, hm1⟩
  try simp only [hs1]
  refine bX10_seed_6   ?_
  exact hQ _ _ (Pm.ok rfl hs1 ((mk.rf).tr hm1))
theorem pX10_become {d : Nat} {im : XI} {s : Nat → Int32} {np nd : Nat} {v km : Int32} (hs : im 1 = s) (hI : Iv s np nd) : SpI mX10_become (d + 2) [.ref 0, .int v, .int km] SM im (fun x im' => Pm im (opBecome s v km) x im') := by
  refine SpI.of [some (.ref 0), some (.int v), some (.int km)] rfl (by decide) rfl (fun Q hQ => ?_)
  have h4 := hI.1.2.1
  have hnp := hI.1.1
  have h5 := hI.2.1.2.1
  have hnd := hI.2.1.1
  refine bX10_become_0   (qX10_isPerson hs) ?_
  rintro _ _ ⟨rfl, rfl⟩
  try simp only [hs]
  refine bX10_become_5   (fun c2 => ?_) (fun c2 => ?_)
  · skip
    try simp only [b2i_z, Classical.not_not, okP, okD, okSet, hs] at c2
    refine bX10_become_15   (pX10_error (k := 1) rfl (by decide)) ?_
    rintro _ _ ⟨rfl, rfl⟩
    try simp only [hs]
    refine bX10_become_20   ?_
    refine hQ _ _ ?_
    first
      | (rw [show opBecome s v km = rE _ s from by unfold opBecome; rw [if_pos (by grind)]]; exact Pm.er rfl hs mk.rf (by decide))
      | (rw [show opBecome s v km = rE _ s from by unfold opBecome; rw [if_neg (by grind), if_pos (by grind)]]; exact Pm.er rfl hs mk.rf (by decide))
  · skip
    try simp only [b2i_z, Classical.not_not, okP, okD, okSet, hs] at c2
    refine bX10_become_8   pX10_isKind ?_
    rintro _ _ ⟨rfl, rfl⟩
    try simp only [hs]
    refine bX10_become_12   (fun c5 => ?_) (fun c5 => ?_)
    · skip
      try simp only [b2i_z, Classical.not_not, okP, okD, okSet, hs] at c5
      obtain ⟨p, hp, rfl⟩ := (in_n (n := np) (by omega)).mp (by rw [← h4]; assumption)
      have hv : nnat (nI p) = p := nnat_nI (by omega)
      refine bX10_become_21   (qX10_lays1 (w := 1) (i := 9 + 4 * _) hs rfl rfl rfl (by omega)) ?_
      rintro im6 ⟨hs6, hm6⟩
      try simp only [hs6]
      refine bX10_become_31   (qX10_change1 (i := 8 + 4 * p) hs6 (by rw [show (0 : Int32) = nI 0 from rfl]; exact ix5 8 4 p 0) (by omega)) ?_
      rintro _ im7 ⟨rfl, hs7, hm7⟩
      try simp only [hs7]
      refine bX10_become_47   ?_
      refine hQ _ _ ?_
      unfold opBecome
      rw [if_neg (by grind)]
      simp only [hv]
      exact Pm.ok (by rw [upd_ne (by omega)]) hs7 ((((mk.rf).tr hm6)).tr hm7)
    · skip
      try simp only [b2i_z, Classical.not_not, okP, okD, okSet, hs] at c5
      refine bX10_become_15   (pX10_error (k := 1) rfl (by decide)) ?_
      rintro _ _ ⟨rfl, rfl⟩
      try simp only [hs]
      refine bX10_become_20   ?_
      refine hQ _ _ ?_
      first
        | (rw [show opBecome s v km = rE _ s from by unfold opBecome; rw [if_pos (by grind)]]; exact Pm.er rfl hs mk.rf (by decide))
        | (rw [show opBecome s v km = rE _ s from by unfold opBecome; rw [if_neg (by grind), if_pos (by grind)]]; exact Pm.er rfl hs mk.rf (by decide))
theorem pX10_beats {d : Nat} {im : XI} {s : Nat → Int32} {np nd : Nat} {v b f : Int32} (hs : im 1 = s) (hI : Iv s np nd) : SpI mX10_beats (d + 2) [.ref 0, .int v, .int b, .int f] SM im (fun x im' => Pm im (opBeats s v b f) x im') := by
  refine SpI.of [some (.ref 0), some (.int v), some (.int b), some (.int f)] rfl (by decide) rfl (fun Q hQ => ?_)
  have h4 := hI.1.2.1
  have hnp := hI.1.1
  have h5 := hI.2.1.2.1
  have hnd := hI.2.1.1
  refine bX10_beats_0   (qX10_isPerson hs) ?_
  rintro _ _ ⟨rfl, rfl⟩
  try simp only [hs]
  refine bX10_beats_5   (fun c2 => ?_) (fun c2 => ?_)
  · skip
    try simp only [b2i_z, Classical.not_not, okP, okD, okSet, hs] at c2
    refine bX10_beats_16   (pX10_error (k := 1) rfl (by decide)) ?_
    rintro _ _ ⟨rfl, rfl⟩
    try simp only [hs]
    refine bX10_beats_21   ?_
    refine hQ _ _ ?_
    first
      | (rw [show opBeats s v b f = rE _ s from by unfold opBeats; rw [if_pos (by grind)]]; exact Pm.er rfl hs mk.rf (by decide))
      | (rw [show opBeats s v b f = rE _ s from by unfold opBeats; rw [if_neg (by grind), if_pos (by grind)]]; exact Pm.er rfl hs mk.rf (by decide))
  · skip
    try simp only [b2i_z, Classical.not_not, okP, okD, okSet, hs] at c2
    refine bX10_beats_8   pX10_isBeat ?_
    rintro _ _ ⟨rfl, rfl⟩
    try simp only [hs]
    refine bX10_beats_13   (fun c5 => ?_) (fun c5 => ?_)
    · skip
      try simp only [b2i_z, Classical.not_not, okP, okD, okSet, hs] at c5
      obtain ⟨p, hp, rfl⟩ := (in_n (n := np) (by omega)).mp (by rw [← h4]; assumption)
      have hv : nnat (nI p) = p := nnat_nI (by omega)
      refine bX10_beats_22   (qX10_lays1 (w := 3) (i := 11 + 4 * _) hs rfl rfl rfl (by omega)) ?_
      rintro im6 ⟨hs6, hm6⟩
      try simp only [hs6]
      refine bX10_beats_29   (qX10_change1 (i := 10 + 4 * p) hs6 (ix5 8 4 p 2) (by omega)) ?_
      rintro _ im7 ⟨rfl, hs7, hm7⟩
      try simp only [hs7]
      refine bX10_beats_42   ?_
      refine hQ _ _ ?_
      unfold opBeats
      rw [if_neg (by grind)]
      simp only [hv]
      exact Pm.ok (by rw [upd_ne (by omega)]) hs7 ((((mk.rf).tr hm6)).tr hm7)
    · skip
      try simp only [b2i_z, Classical.not_not, okP, okD, okSet, hs] at c5
      refine bX10_beats_16   (pX10_error (k := 1) rfl (by decide)) ?_
      rintro _ _ ⟨rfl, rfl⟩
      try simp only [hs]
      refine bX10_beats_21   ?_
      refine hQ _ _ ?_
      first
        | (rw [show opBeats s v b f = rE _ s from by unfold opBeats; rw [if_pos (by grind)]]; exact Pm.er rfl hs mk.rf (by decide))
        | (rw [show opBeats s v b f = rE _ s from by unfold opBeats; rw [if_neg (by grind), if_pos (by grind)]]; exact Pm.er rfl hs mk.rf (by decide))
theorem pX10_sets {d : Nat} {im : XI} {s : Nat → Int32} {np nd : Nat} {v q : Int32} (hs : im 1 = s) (hI : Iv s np nd) : SpI mX10_sets (d + 2) [.ref 0, .int v, .int q] SM im (fun x im' => Pm im (opSets s v q) x im') := by
  refine SpI.of [some (.ref 0), some (.int v), some (.int q)] rfl (by decide) rfl (fun Q hQ => ?_)
  have h4 := hI.1.2.1
  have hnp := hI.1.1
  have h5 := hI.2.1.2.1
  have hnd := hI.2.1.1
  refine bX10_sets_0   (qX10_isDoing hs) ?_
  rintro _ _ ⟨rfl, rfl⟩
  try simp only [hs]
  refine bX10_sets_5   (fun c2 => ?_) (fun c2 => ?_)
  · skip
    try simp only [b2i_z, Classical.not_not, okP, okD, okSet, hs] at c2
    refine bX10_sets_34   (pX10_error (k := 1) rfl (by decide)) ?_
    rintro _ _ ⟨rfl, rfl⟩
    try simp only [hs]
    refine bX10_sets_39   ?_
    refine hQ _ _ ?_
    first
      | (rw [show opSets s v q = rE _ s from by unfold opSets; rw [if_pos (by grind)]]; exact Pm.er rfl hs mk.rf (by decide))
      | (rw [show opSets s v q = rE _ s from by unfold opSets; rw [if_neg (by grind), if_pos (by grind)]]; exact Pm.er rfl hs mk.rf (by decide))
  · skip
    try simp only [b2i_z, Classical.not_not, okP, okD, okSet, hs] at c2
    refine bX10_sets_8   pX10_in ?_
    rintro _ _ ⟨rfl, rfl⟩
    try simp only [hs]
    refine bX10_sets_15   (fun c5 => ?_) (fun c5 => ?_)
    · skip
      try simp only [b2i_z, Classical.not_not, okP, okD, okSet, hs] at c5
      refine bX10_sets_34   (pX10_error (k := 1) rfl (by decide)) ?_
      rintro _ _ ⟨rfl, rfl⟩
      try simp only [hs]
      refine bX10_sets_39   ?_
      refine hQ _ _ ?_
      first
        | (rw [show opSets s v q = rE _ s from by unfold opSets; rw [if_pos (by grind)]]; exact Pm.er rfl hs mk.rf (by decide))
        | (rw [show opSets s v q = rE _ s from by unfold opSets; rw [if_neg (by grind), if_pos (by grind)]]; exact Pm.er rfl hs mk.rf (by decide))
    · skip
      try simp only [b2i_z, Classical.not_not, okP, okD, okSet, hs] at c5
      obtain ⟨e, he, rfl⟩ := (in_n (n := nd) (by omega)).mp (by rw [← h5]; assumption)
      have hv : nnat (nI e) = e := nnat_nI (by omega)
      refine bX10_sets_18   (qX10_change1 (i := 33 + 3 * e) hs (ix5 32 3 e 1) (by omega)) ?_
      rintro _ im7 ⟨rfl, hs7, hm7⟩
      try simp only [hs7]
      refine bX10_sets_31   ?_
      refine bX10_sets_39   ?_
      refine hQ _ _ ?_
      unfold opSets
      rw [if_neg (by grind)]
      simp only [hv]
      exact Pm.ok rfl hs7 ((mk.rf).tr hm7)
theorem pX10_shut {d : Nat} {im : XI} {s : Nat → Int32} {np nd : Nat}  (hs : im 1 = s) (hI : Iv s np nd) : SpI mX10_shut (d + 5) [.ref 0] SM im (fun x im' => Pm im (opShut s) x im') := by
  refine SpI.of [some (.ref 0)] rfl (by decide) rfl (fun Q hQ => ?_)
  have h4 := hI.1.2.1
  have hnp := hI.1.1
  have h5 := hI.2.1.2.1
  have hnd := hI.2.1.1
  refine bX10_shut_0   (pX10_shutNow hs (by assumption)) ?_
  rintro _ im1 ⟨rfl, hs1, hm1⟩
  try simp only [hs1]
  refine bX10_shut_4   ?_
  exact hQ _ _ (Pm.ok rfl hs1 ((mk.rf).tr hm1))
theorem pX10_law {d : Nat} {im : XI} {s : Nat → Int32} {np nd : Nat} {u a b c : Int32} (hs : im 1 = s) (hI : Iv s np nd) : SpI mX10_law (d + 3) [.ref 0, .int u, .int a, .int b, .int c] SM im (fun x im' => Pm im (opLaw s u a b c) x im') := by
  refine SpI.of [some (.ref 0), some (.int u), some (.int a), some (.int b), some (.int c)] rfl (by decide) rfl (fun Q hQ => ?_)
  have h4 := hI.1.2.1
  have hnp := hI.1.1
  have h5 := hI.2.1.2.1
  have hnd := hI.2.1.1
  have ht0 := hI.2.2.2.2.1
  have ht1 := hI.2.2.2.2.2
  refine bX10_law_0   pX10_in ?_
  rintro _ _ ⟨rfl, rfl⟩
  try simp only [hs]
  refine bX10_law_6   (fun c2 => ?_) (fun c2 => ?_)
  · skip
    try simp only [b2i_z, Classical.not_not, okP, okD, okSet, hs] at c2
    refine bX10_law_15   (fun c3 => ?_) (fun c3 => ?_)
    · skip
      try simp only [b2i_z, Classical.not_not, okP, okD, okSet, hs] at c3
      refine bX10_law_30   (pX10_onTold hs (by assumption)) ?_
      rintro _ im4 ⟨rfl, hs4, hm4⟩
      try simp only [hs4]
      refine bX10_law_38   ?_
      refine hQ _ _ ?_
      unfold opLaw
      rw [if_neg (by grind)]
      first | rw [if_pos (by assumption)] | rw [if_neg (by assumption)]
      exact Pm.ok rfl hs4 ((mk.rf).tr hm4)
    · skip
      try simp only [b2i_z, Classical.not_not, okP, okD, okSet, hs] at c3
      refine bX10_law_19   (pX10_shutTold hs (by assumption)) ?_
      rintro _ im5 ⟨rfl, hs5, hm5⟩
      try simp only [hs5]
      refine bX10_law_27   ?_
      refine bX10_law_38   ?_
      refine hQ _ _ ?_
      unfold opLaw
      rw [if_neg (by grind)]
      first | rw [if_pos (by assumption)] | rw [if_neg (by assumption)]
      exact Pm.ok rfl hs5 ((mk.rf).tr hm5)
  · skip
    try simp only [b2i_z, Classical.not_not, okP, okD, okSet, hs] at c2
    refine bX10_law_9   (pX10_error (k := 1) rfl (by decide)) ?_
    rintro _ _ ⟨rfl, rfl⟩
    try simp only [hs]
    refine bX10_law_14   ?_
    refine hQ _ _ ?_
    first
      | (rw [show opLaw s u a b c = rE _ s from by unfold opLaw; rw [if_pos (by grind)]]; exact Pm.er rfl hs mk.rf (by decide))
      | (rw [show opLaw s u a b c = rE _ s from by unfold opLaw; rw [if_neg (by grind), if_pos (by grind)]]; exact Pm.er rfl hs mk.rf (by decide))

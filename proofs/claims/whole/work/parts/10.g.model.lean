theorem pX10_person {d : Nat} {im : XI} {s : Nat → Int32} {np nd : Nat} {km b f : Int32} (hs : im 1 = s) (hI : Iv s np nd) : SpI mX10_person (d + 2) [.ref 0, .int km, .int b, .int f] SM im (fun x im' => Pm im (opPerson s km b f) x im') := by
  refine SpI.of [some (.ref 0), some (.int km), some (.int b), some (.int f), none] rfl (by decide) rfl (fun Q hQ => ?_)
  have h4 := hI.1.2.1
  have hnp := hI.1.1
  have h5 := hI.2.1.2.1
  have hnd := hI.2.1.1
  refine bX10_person_0   pX10_isKind ?_
  rintro _ _ ⟨rfl, rfl⟩
  try simp only [hs]
  refine bX10_person_4   (fun c2 => ?_) (fun c2 => ?_)
  · skip
    try simp only [b2i_z, Classical.not_not, okP, okD, okSet, hs] at c2
    refine bX10_person_15   (pX10_error (k := 1) rfl (by decide)) ?_
    rintro _ _ ⟨rfl, rfl⟩
    try simp only [hs]
    refine bX10_person_20   ?_
    refine hQ _ _ ?_
    first
      | (rw [show opPerson s km b f = rE _ s from by unfold opPerson; rw [if_pos (by grind)]]; exact Pm.er rfl hs mk.rf (by decide))
      | (rw [show opPerson s km b f = rE _ s from by unfold opPerson; rw [if_neg (by grind), if_pos (by grind)]]; exact Pm.er rfl hs mk.rf (by decide))
  · skip
    try simp only [b2i_z, Classical.not_not, okP, okD, okSet, hs] at c2
    refine bX10_person_7   pX10_isBeat ?_
    rintro _ _ ⟨rfl, rfl⟩
    try simp only [hs]
    refine bX10_person_12   (fun c5 => ?_) (fun c5 => ?_)
    · skip
      try simp only [b2i_z, Classical.not_not, okP, okD, okSet, hs] at c5
      refine bX10_person_21   (fun c6 => ?_) (fun c6 => ?_)
      · skip
        try simp only [b2i_z, Classical.not_not, okP, okD, okSet, hs] at c6
        have hlt : np < 6 := by
          rcases Nat.lt_or_ge np 6 with h | h
          · exact h
          · exfalso
            have : np = 6 := by omega
            subst this
            exact absurd h4 ‹¬ s 4 = 6›
        refine bX10_person_38   (qX10_lays1 (p := np) (w := 0) (i := 8 + 4 * np) hs (by first | exact h4 | (rw [hs]; exact h4)) rfl rfl (by omega)) ?_
        rintro im7 ⟨hs7, hm7⟩
        try simp only [hs]
        refine bX10_person_57   (qX10_lays1 (p := np) (w := 1) (i := 9 + 4 * np) hs7 (by first | exact h4 | (rw [hs]; exact h4)) rfl rfl (by omega)) ?_
        rintro im8 ⟨hs8, hm8⟩
        try simp only [hs]
        refine bX10_person_68   (qX10_lays1 (p := np) (w := 2) (i := 10 + 4 * np) hs8 (by first | exact h4 | (rw [hs]; exact h4)) rfl rfl (by omega)) ?_
        rintro im9 ⟨hs9, hm9⟩
        try simp only [hs]
        refine bX10_person_76   (qX10_lays1 (p := np) (w := 3) (i := 11 + 4 * np) hs9 (by first | exact h4 | (rw [hs]; exact h4)) rfl rfl (by omega)) ?_
        rintro im10 ⟨hs10, hm10⟩
        try simp only [hs]
        refine bX10_person_84   ?_
        refine hQ _ _ ?_
        unfold opPerson
        rw [if_neg (by grind), if_neg (by grind)]
        refine Pm.ok (by first | rfl | rw [hs]) ?_ ((((((((((mk.rf).tr hm7)).tr hm8)).tr hm9)).tr hm10)).up (mg1 _))
        rw [xup_s, hs10]
        unfold newP
        rw [h4, nnat_nI (by omega), upd_ne (by omega), upd_ne (by omega), upd_ne (by omega), upd_ne (by omega), h4]
        rfl
      · skip
        try simp only [b2i_z, Classical.not_not, okP, okD, okSet, hs] at c6
        refine bX10_person_32   (pX10_error (k := 4) rfl (by decide)) ?_
        rintro _ _ ⟨rfl, rfl⟩
        try simp only [hs]
        refine bX10_person_37   ?_
        refine hQ _ _ ?_
        first
          | (rw [show opPerson s km b f = rE _ s from by unfold opPerson; rw [if_pos (by grind)]]; exact Pm.er rfl hs mk.rf (by decide))
          | (rw [show opPerson s km b f = rE _ s from by unfold opPerson; rw [if_neg (by grind), if_pos (by grind)]]; exact Pm.er rfl hs mk.rf (by decide))
    · skip
      try simp only [b2i_z, Classical.not_not, okP, okD, okSet, hs] at c5
      refine bX10_person_15   (pX10_error (k := 1) rfl (by decide)) ?_
      rintro _ _ ⟨rfl, rfl⟩
      try simp only [hs]
      refine bX10_person_20   ?_
      refine hQ _ _ ?_
      first
        | (rw [show opPerson s km b f = rE _ s from by unfold opPerson; rw [if_pos (by grind)]]; exact Pm.er rfl hs mk.rf (by decide))
        | (rw [show opPerson s km b f = rE _ s from by unfold opPerson; rw [if_neg (by grind), if_pos (by grind)]]; exact Pm.er rfl hs mk.rf (by decide))
theorem pX10_doing {d : Nat} {im : XI} {s : Nat → Int32} {np nd : Nat} {v q w : Int32} (hs : im 1 = s) (hI : Iv s np nd) : SpI mX10_doing (d + 2) [.ref 0, .int v, .int q, .int w] SM im (fun x im' => Pm im (opDoing s v q w) x im') := by
  refine SpI.of [some (.ref 0), some (.int v), some (.int q), some (.int w), none] rfl (by decide) rfl (fun Q hQ => ?_)
  have h4 := hI.1.2.1
  have hnp := hI.1.1
  have h5 := hI.2.1.2.1
  have hnd := hI.2.1.1
  refine bX10_doing_0   (qX10_isPerson hs) ?_
  rintro _ _ ⟨rfl, rfl⟩
  try simp only [hs]
  refine bX10_doing_5   (fun c2 => ?_) (fun c2 => ?_)
  · skip
    try simp only [b2i_z, Classical.not_not, okP, okD, okSet, hs] at c2
    refine bX10_doing_35   (pX10_error (k := 1) rfl (by decide)) ?_
    rintro _ _ ⟨rfl, rfl⟩
    try simp only [hs]
    refine bX10_doing_40   ?_
    refine hQ _ _ ?_
    first
      | (rw [show opDoing s v q w = rE _ s from by unfold opDoing; rw [if_pos (by grind)]]; exact Pm.er rfl hs mk.rf (by decide))
      | (rw [show opDoing s v q w = rE _ s from by unfold opDoing; rw [if_neg (by grind), if_pos (by grind)]]; exact Pm.er rfl hs mk.rf (by decide))
  · skip
    try simp only [b2i_z, Classical.not_not, okP, okD, okSet, hs] at c2
    refine bX10_doing_8   pX10_in ?_
    rintro _ _ ⟨rfl, rfl⟩
    try simp only [hs]
    refine bX10_doing_15   (fun c5 => ?_) (fun c5 => ?_)
    · skip
      try simp only [b2i_z, Classical.not_not, okP, okD, okSet, hs] at c5
      refine bX10_doing_35   (pX10_error (k := 1) rfl (by decide)) ?_
      rintro _ _ ⟨rfl, rfl⟩
      try simp only [hs]
      refine bX10_doing_40   ?_
      refine hQ _ _ ?_
      first
        | (rw [show opDoing s v q w = rE _ s from by unfold opDoing; rw [if_pos (by grind)]]; exact Pm.er rfl hs mk.rf (by decide))
        | (rw [show opDoing s v q w = rE _ s from by unfold opDoing; rw [if_neg (by grind), if_pos (by grind)]]; exact Pm.er rfl hs mk.rf (by decide))
    · skip
      try simp only [b2i_z, Classical.not_not, okP, okD, okSet, hs] at c5
      refine bX10_doing_18   (qX10_isSet hs) ?_
      rintro _ _ ⟨rfl, rfl⟩
      try simp only [hs]
      refine bX10_doing_23   (fun c8 => ?_) (fun c8 => ?_)
      · skip
        try simp only [b2i_z, Classical.not_not, okP, okD, okSet, hs] at c8
        refine bX10_doing_35   (pX10_error (k := 1) rfl (by decide)) ?_
        rintro _ _ ⟨rfl, rfl⟩
        try simp only [hs]
        refine bX10_doing_40   ?_
        refine hQ _ _ ?_
        first
          | (rw [show opDoing s v q w = rE _ s from by unfold opDoing; rw [if_pos (by grind)]]; exact Pm.er rfl hs mk.rf (by decide))
          | (rw [show opDoing s v q w = rE _ s from by unfold opDoing; rw [if_neg (by grind), if_pos (by grind)]]; exact Pm.er rfl hs mk.rf (by decide))
      · skip
        try simp only [b2i_z, Classical.not_not, okP, okD, okSet, hs] at c8
        refine bX10_doing_26   (fun c10 => ?_) (fun c10 => ?_)
        · skip
          try simp only [b2i_z, Classical.not_not, okP, okD, okSet, hs] at c10
          refine bX10_doing_41   (fun c11 => ?_) (fun c11 => ?_)
          · skip
            try simp only [b2i_z, Classical.not_not, okP, okD, okSet, hs] at c11
            have hlt : nd < 6 := by
              rcases Nat.lt_or_ge nd 6 with h | h
              · exact h
              · exfalso
                have : nd = 6 := by omega
                subst this
                exact absurd h5 ‹¬ s 5 = 6›
            refine bX10_doing_58   (qX10_laysDoing (p := nd) (w := 0) (i := 32 + 3 * nd) hs (by first | exact h5 | (rw [hs]; exact h5)) rfl rfl (by omega)) ?_
            rintro im12 ⟨hs12, hm12⟩
            try simp only [hs]
            refine bX10_doing_74   (qX10_laysDoing (p := nd) (w := 1) (i := 33 + 3 * nd) hs12 (by first | exact h5 | (rw [hs]; exact h5)) rfl rfl (by omega)) ?_
            rintro im13 ⟨hs13, hm13⟩
            try simp only [hs]
            refine bX10_doing_82   (qX10_laysDoing (p := nd) (w := 2) (i := 34 + 3 * nd) hs13 (by first | exact h5 | (rw [hs]; exact h5)) rfl rfl (by omega)) ?_
            rintro im14 ⟨hs14, hm14⟩
            try simp only [hs]
            refine bX10_doing_90   ?_
            refine hQ _ _ ?_
            unfold opDoing
            rw [if_neg (by grind), if_neg (by grind)]
            refine Pm.ok (by first | rfl | rw [hs]) ?_ ((((((((mk.rf).tr hm12)).tr hm13)).tr hm14)).up (mg1 _))
            rw [xup_s, hs14]
            unfold newD
            rw [h5, nnat_nI (by omega), upd_ne (by omega), upd_ne (by omega), upd_ne (by omega), h5]
          · skip
            try simp only [b2i_z, Classical.not_not, okP, okD, okSet, hs] at c11
            refine bX10_doing_52   (pX10_error (k := 4) rfl (by decide)) ?_
            rintro _ _ ⟨rfl, rfl⟩
            try simp only [hs]
            refine bX10_doing_57   ?_
            refine hQ _ _ ?_
            first
              | (rw [show opDoing s v q w = rE _ s from by unfold opDoing; rw [if_pos (by grind)]]; exact Pm.er rfl hs mk.rf (by decide))
              | (rw [show opDoing s v q w = rE _ s from by unfold opDoing; rw [if_neg (by grind), if_pos (by grind)]]; exact Pm.er rfl hs mk.rf (by decide))
        · skip
          try simp only [b2i_z, Classical.not_not, okP, okD, okSet, hs] at c10
          refine bX10_doing_35   (pX10_error (k := 1) rfl (by decide)) ?_
          rintro _ _ ⟨rfl, rfl⟩
          try simp only [hs]
          refine bX10_doing_40   ?_
          refine hQ _ _ ?_
          first
            | (rw [show opDoing s v q w = rE _ s from by unfold opDoing; rw [if_pos (by grind)]]; exact Pm.er rfl hs mk.rf (by decide))
            | (rw [show opDoing s v q w = rE _ s from by unfold opDoing; rw [if_neg (by grind), if_pos (by grind)]]; exact Pm.er rfl hs mk.rf (by decide))
theorem pX10_personIs {d : Nat} {im : XI} {s : Nat → Int32} {np nd : Nat} {v w : Int32} (hs : im 1 = s) (hI : Iv s np nd) : SpI mX10_personIs (d + 4) [.ref 0, .int v, .int w] SM im (fun x im' => Pm im (opPersonIs s v w) x im') := by
  refine SpI.of [some (.ref 0), some (.int v), some (.int w)] rfl (by decide) rfl (fun Q hQ => ?_)
  have h4 := hI.1.2.1
  have hnp := hI.1.1
  have h5 := hI.2.1.2.1
  have hnd := hI.2.1.1
  refine bX10_personIs_0   (qX10_isPerson hs) ?_
  rintro _ _ ⟨rfl, rfl⟩
  try simp only [hs]
  refine bX10_personIs_5   (fun c2 => ?_) (fun c2 => ?_)
  · skip
    try simp only [b2i_z, Classical.not_not, okP, okD, okSet, hs] at c2
    refine bX10_personIs_17   (pX10_error (k := 1) rfl (by decide)) ?_
    rintro _ _ ⟨rfl, rfl⟩
    try simp only [hs]
    refine bX10_personIs_22   ?_
    refine hQ _ _ ?_
    first
      | (rw [show opPersonIs s v w = rE _ s from by unfold opPersonIs; rw [if_pos (by grind)]]; exact Pm.er rfl hs mk.rf (by decide))
      | (rw [show opPersonIs s v w = rE _ s from by unfold opPersonIs; rw [if_neg (by grind), if_pos (by grind)]]; exact Pm.er rfl hs mk.rf (by decide))
  · skip
    try simp only [b2i_z, Classical.not_not, okP, okD, okSet, hs] at c2
    refine bX10_personIs_8   pX10_in ?_
    rintro _ _ ⟨rfl, rfl⟩
    try simp only [hs]
    refine bX10_personIs_14   (fun c5 => ?_) (fun c5 => ?_)
    · skip
      try simp only [b2i_z, Classical.not_not, okP, okD, okSet, hs] at c5
      obtain ⟨p, hp, rfl⟩ := (in_n (n := np) (by omega)).mp (by rw [← h4]; assumption)
      have hv : nnat (nI p) = p := nnat_nI (by omega)
      obtain ⟨-, bt, hb0, hb1, hb2⟩ := hI.1.2.2 p hp
      have hbz : ¬ s (10 + 4 * p) = 0 := by rw [hb2]; exact nI_ne0 hb0 (by omega)
      have htx := hI.2.2.2.2.1
      obtain ⟨j, hj, rfl⟩ := (in_c (x := w) (n := 4) rfl (by decide)).mp (by assumption)
      have hj2 : nnat (nI j) = j := nnat_nI (by omega)
      refine bX10_personIs_23   (fun c6 => ?_) (fun c6 => ?_)
      · skip
        try simp only [b2i_z, Classical.not_not, okP, okD, okSet, hs] at c6
        refine bX10_personIs_37   (pX10_shutOf hs (by omega) hbz htx) ?_
        rintro _ im7 ⟨rfl, hs7, hm7⟩
        try simp only [hs7]
        refine bX10_personIs_42   ?_
        refine hQ _ _ ?_
        unfold opPersonIs
        rw [if_neg (by grind)]
        simp only [hv, hj2]
        first | rw [if_pos (Int32.not_le.mp (by assumption))] | rw [if_neg (Int32.not_lt.mpr (by assumption))]
        exact Pm.ok rfl hs7 ((mk.rf).tr hm7)
      · skip
        try simp only [b2i_z, Classical.not_not, okP, okD, okSet, hs] at c6
        refine bX10_personIs_28   (qX10_its (w := j) (i := 8 + j + 4 * p) hs rfl rfl rfl (by omega)) ?_
        rintro _ _ ⟨rfl, rfl⟩
        try simp only [hs]
        refine bX10_personIs_34   ?_
        refine bX10_personIs_42   ?_
        refine hQ _ _ ?_
        unfold opPersonIs
        rw [if_neg (by grind)]
        simp only [hv, hj2]
        first | rw [if_pos (Int32.not_le.mp (by assumption))] | rw [if_neg (Int32.not_lt.mpr (by assumption))]
        exact Pm.ok rfl hs mk.rf
    · skip
      try simp only [b2i_z, Classical.not_not, okP, okD, okSet, hs] at c5
      refine bX10_personIs_17   (pX10_error (k := 1) rfl (by decide)) ?_
      rintro _ _ ⟨rfl, rfl⟩
      try simp only [hs]
      refine bX10_personIs_22   ?_
      refine hQ _ _ ?_
      first
        | (rw [show opPersonIs s v w = rE _ s from by unfold opPersonIs; rw [if_pos (by grind)]]; exact Pm.er rfl hs mk.rf (by decide))
        | (rw [show opPersonIs s v w = rE _ s from by unfold opPersonIs; rw [if_neg (by grind), if_pos (by grind)]]; exact Pm.er rfl hs mk.rf (by decide))
theorem pX10_doingIs {d : Nat} {im : XI} {s : Nat → Int32} {np nd : Nat} {v w : Int32} (hs : im 1 = s) (hI : Iv s np nd) : SpI mX10_doingIs (d + 5) [.ref 0, .int v, .int w] SM im (fun x im' => Pm im (opDoingIs s v w) x im') := by
  refine SpI.of [some (.ref 0), some (.int v), some (.int w)] rfl (by decide) rfl (fun Q hQ => ?_)
  have h4 := hI.1.2.1
  have hnp := hI.1.1
  have h5 := hI.2.1.2.1
  have hnd := hI.2.1.1
  refine bX10_doingIs_0   (qX10_isDoing hs) ?_
  rintro _ _ ⟨rfl, rfl⟩
  try simp only [hs]
  refine bX10_doingIs_5   (fun c2 => ?_) (fun c2 => ?_)
  · skip
    try simp only [b2i_z, Classical.not_not, okP, okD, okSet, hs] at c2
    refine bX10_doingIs_17   (pX10_error (k := 1) rfl (by decide)) ?_
    rintro _ _ ⟨rfl, rfl⟩
    try simp only [hs]
    refine bX10_doingIs_22   ?_
    refine hQ _ _ ?_
    first
      | (rw [show opDoingIs s v w = rE _ s from by unfold opDoingIs; rw [if_pos (by grind)]]; exact Pm.er rfl hs mk.rf (by decide))
      | (rw [show opDoingIs s v w = rE _ s from by unfold opDoingIs; rw [if_neg (by grind), if_pos (by grind)]]; exact Pm.er rfl hs mk.rf (by decide))
  · skip
    try simp only [b2i_z, Classical.not_not, okP, okD, okSet, hs] at c2
    refine bX10_doingIs_8   pX10_in ?_
    rintro _ _ ⟨rfl, rfl⟩
    try simp only [hs]
    refine bX10_doingIs_14   (fun c5 => ?_) (fun c5 => ?_)
    · skip
      try simp only [b2i_z, Classical.not_not, okP, okD, okSet, hs] at c5
      obtain ⟨e, he, rfl⟩ := (in_n (n := nd) (by omega)).mp (by rw [← h5]; assumption)
      have hv : nnat (nI e) = e := nnat_nI (by omega)
      obtain ⟨j, hj, rfl⟩ := (in_c (x := w) (n := 3) rfl (by decide)).mp (by assumption)
      have hj2 : nnat (nI j) = j := nnat_nI (by omega)
      refine bX10_doingIs_23   (fun c6 => ?_) (fun c6 => ?_)
      · skip
        try simp only [b2i_z, Classical.not_not, okP, okD, okSet, hs] at c6
        refine bX10_doingIs_37   (pX10_shutNow hs (by assumption)) ?_
        rintro _ im7 ⟨rfl, hs7, hm7⟩
        try simp only [hs7]
        refine bX10_doingIs_43  (by first | rfl | assumption) (pX10_onBy hs7 hI (by omega)) ?_
        rintro _ im8 ⟨rfl, hs8, hm8⟩
        try simp only [hs8]
        refine bX10_doingIs_46   ?_
        refine hQ _ _ ?_
        unfold opDoingIs
        rw [if_neg (by grind)]
        simp only [hv, hj2]
        first | rw [if_pos (Int32.not_le.mp (by assumption))] | rw [if_neg (Int32.not_lt.mpr (by assumption))]
        exact Pm.ok rfl hs8 ((((mk.rf).tr hm7)).tr hm8)
      · skip
        try simp only [b2i_z, Classical.not_not, okP, okD, okSet, hs] at c6
        refine bX10_doingIs_28   (qX10_ofDoing (w := j) (i := 32 + j + 3 * e) hs rfl rfl rfl (by omega)) ?_
        rintro _ _ ⟨rfl, rfl⟩
        try simp only [hs]
        refine bX10_doingIs_34   ?_
        refine bX10_doingIs_46   ?_
        refine hQ _ _ ?_
        unfold opDoingIs
        rw [if_neg (by grind)]
        simp only [hv, hj2]
        first | rw [if_pos (Int32.not_le.mp (by assumption))] | rw [if_neg (Int32.not_lt.mpr (by assumption))]
        exact Pm.ok rfl hs mk.rf
    · skip
      try simp only [b2i_z, Classical.not_not, okP, okD, okSet, hs] at c5
      refine bX10_doingIs_17   (pX10_error (k := 1) rfl (by decide)) ?_
      rintro _ _ ⟨rfl, rfl⟩
      try simp only [hs]
      refine bX10_doingIs_22   ?_
      refine hQ _ _ ?_
      first
        | (rw [show opDoingIs s v w = rE _ s from by unfold opDoingIs; rw [if_pos (by grind)]]; exact Pm.er rfl hs mk.rf (by decide))
        | (rw [show opDoingIs s v w = rE _ s from by unfold opDoingIs; rw [if_neg (by grind), if_pos (by grind)]]; exact Pm.er rfl hs mk.rf (by decide))
theorem pX10_above {d : Nat} {im : XI} {S : XS} {k : Int32}  : SpI mX10_above d [.int k] S im (fun x im' => x = abv k ∧ im = im') := by
  refine SpI.of [some (.int k)] rfl (by decide) rfl (fun Q hQ => ?_)
  refine bX10_above_0   (fun c1 => ?_) (fun c1 => ?_)
  · skip
    refine bX10_above_9   (fun c2 => ?_) (fun c2 => ?_)
    · skip
      refine bX10_above_18   ?_
      refine bX10_above_19   ?_
      exact hQ _ _ ⟨by simp_all [abv], rfl⟩
    · skip
      refine bX10_above_14   ?_
      refine bX10_above_19   ?_
      exact hQ _ _ ⟨by simp_all [abv], rfl⟩
  · skip
    refine bX10_above_5   ?_
    refine bX10_above_19   ?_
    exact hQ _ _ ⟨by simp_all [abv], rfl⟩
theorem pX10_as {d : Nat} {im : XI} {s : Nat → Int32} {np nd : Nat} {v k : Int32} (hs : im 1 = s) (hI : Iv s np nd) : SpI mX10_as (d + 2) [.ref 0, .int v, .int k] SM im (fun x im' => Pm im (opAs s v k) x im') := by
  refine SpI.of [some (.ref 0), some (.int v), some (.int k), none] rfl (by decide) rfl (fun Q hQ => ?_)
  have h4 := hI.1.2.1
  have hnp := hI.1.1
  have h5 := hI.2.1.2.1
  have hnd := hI.2.1.1
  refine bX10_as_0   (qX10_isPerson hs) ?_
  rintro _ _ ⟨rfl, rfl⟩
  try simp only [hs]
  refine bX10_as_5   (fun c2 => ?_) (fun c2 => ?_)
  · skip
    try simp only [b2i_z, Classical.not_not, okP, okD, okSet, hs] at c2
    refine bX10_as_18   (pX10_error (k := 1) rfl (by decide)) ?_
    rintro _ _ ⟨rfl, rfl⟩
    try simp only [hs]
    refine bX10_as_23   ?_
    refine hQ _ _ ?_
    first
      | (rw [show opAs s v k = rE _ s from by unfold opAs; rw [if_pos (by grind)]]; exact Pm.er rfl hs mk.rf (by decide))
      | (rw [show opAs s v k = rE _ s from by unfold opAs; rw [if_neg (by grind), if_pos (by grind)]]; exact Pm.er rfl hs mk.rf (by decide))
  · skip
    try simp only [b2i_z, Classical.not_not, okP, okD, okSet, hs] at c2
    refine bX10_as_8   pX10_in ?_
    rintro _ _ ⟨rfl, rfl⟩
    try simp only [hs]
    refine bX10_as_15   (fun c5 => ?_) (fun c5 => ?_)
    · skip
      try simp only [b2i_z, Classical.not_not, okP, okD, okSet, hs] at c5
      obtain ⟨p, hp, rfl⟩ := (in_n (n := np) (by omega)).mp (by rw [← h4]; assumption)
      have hv : nnat (nI p) = p := nnat_nI (by omega)
      refine bX10_as_24   (qX10_its (w := 0) (i := 8 + 4 * _) hs rfl rfl rfl (by omega)) ?_
      rintro _ _ ⟨rfl, rfl⟩
      try simp only [hs]
      refine bX10_as_30   ?_
      have step : ∀ x : Int32, (x = k ∨ x = 0 → V mX10_as (d + 2) (0, 0) 48 [some (.ref 0), some (.int (nI p)), some (.int k), some (.int x)] [] SM im Q) → (¬ (x = k ∨ x = 0) → V mX10_as (d + 2) (0, 0) 31 [some (.ref 0), some (.int (nI p)), some (.int k), some (.int (abv x))] [] SM im Q) → V mX10_as (d + 2) (0, 0) 31 [some (.ref 0), some (.int (nI p)), some (.int k), some (.int x)] [] SM im Q := by
        intro x k1 k2
        refine bX10_as_31 (fun c => k1 (Or.inl c)) (fun c => ?_)
        refine bX10_as_36 (fun c2 => k1 (Or.inr c2)) (fun c2 => ?_)
        refine bX10_as_40 pX10_above ?_
        rintro _ _ ⟨rfl, rfl⟩
        refine bX10_as_44 ?_
        exact k2 (fun h => h.elim c c2)
      have fin : ∀ x : Int32, (x = k ↔ under0 (s (8 + 4 * p)) k) → V mX10_as (d + 2) (0, 0) 48 [some (.ref 0), some (.int (nI p)), some (.int k), some (.int x)] [] SM im Q := by
        intro x hx
        refine bX10_as_48 (fun c => ?_) (fun c => ?_)
        · refine bX10_as_62 (pX10_error (k := 5) rfl (by decide)) ?_
          rintro _ _ ⟨rfl, rfl⟩
          refine bX10_as_67 ?_
          refine hQ _ _ ?_
          unfold opAs
          rw [if_neg (by grind), hv, if_neg (fun h => c (hx.mpr h))]
          exact Pm.er rfl hs mk.rf (by decide)
        · refine bX10_as_53 (qX10_its (w := 1) (i := 9 + 4 * p) hs rfl rfl rfl (by omega)) ?_
          rintro _ _ ⟨rfl, rfl⟩
          refine bX10_as_59 ?_
          refine bX10_as_67 ?_
          refine hQ _ _ ?_
          unfold opAs
          rw [if_neg (by grind), hv, if_pos (hx.mp c)]
          exact Pm.ok rfl hs mk.rf
      refine step _ (fun h => fin _ (und0 h)) (fun h => ?_)
      refine step _ (fun h2 => fin _ (und1 h h2)) (fun h2 => ?_)
      refine step _ (fun h3 => fin _ (und2 h h2)) (fun h3 => ?_)
      exact absurd (Or.inr (abv2 _)) h3
    · skip
      try simp only [b2i_z, Classical.not_not, okP, okD, okSet, hs] at c5
      refine bX10_as_18   (pX10_error (k := 1) rfl (by decide)) ?_
      rintro _ _ ⟨rfl, rfl⟩
      try simp only [hs]
      refine bX10_as_23   ?_
      refine hQ _ _ ?_
      first
        | (rw [show opAs s v k = rE _ s from by unfold opAs; rw [if_pos (by grind)]]; exact Pm.er rfl hs mk.rf (by decide))
        | (rw [show opAs s v k = rE _ s from by unfold opAs; rw [if_neg (by grind), if_pos (by grind)]]; exact Pm.er rfl hs mk.rf (by decide))

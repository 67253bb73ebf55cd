theorem pX10_check {d : Nat} {im : XI} {s : Nat → Int32} {np nd : Nat} (hs : im 1 = s) (hI : Iv s np nd) : SpI mX10_check (d + 2) [.ref 0] SM im (fun x im' => Pm im (opCheck s) x im') := by
  refine SpI.of [some (.ref 0), none, none] rfl (by decide) rfl (fun Q hQ => ?_)
  obtain ⟨nw, hnw, h3⟩ := hI.2.2.2.1
  have h5 := hI.2.1.2.1
  have hnd := hI.2.1.1
  refine bX10_check_0 ?_
  rw [hs, h3]
  obtain ⟨im1, him⟩ : ∃ z, z = xup im 1 3 0 := ⟨_, rfl⟩
  rw [← him]
  have hs1 : im1 1 = upd s 3 0 := by rw [him, xup_s, hs]
  have hm1 : mk im im1 := by rw [him]; exact mk.rf.up (mg1 _)
  have fin : ∀ x : Int32, x = chk0 s nd nw 0 → Q (some (.int x)) SM im1 := by
    intro x hx
    refine hQ _ _ ?_
    unfold opCheck
    rw [h5, h3, nnat_nI (by omega), nnat_nI (by omega)]
    exact Pm.ok hx hs1 hm1
  have key : ∀ (n k : Nat), nw < k + n → k ≤ nw → chk0 s nd (nw - k) k = chk0 s nd nw 0 → V mX10_check (d + 2) (0, 0) 16 [some (.ref 0), some (.int (nI nw)), some (.int (nI k))] [] SM im1 Q := by
    intro n
    induction n with
    | zero => intro k hn1 hn2; omega
    | succ n ih =>
      intro k hn1 hn2 hc
      refine bX10_check_16 (fun c => ?_) (fun c => ?_)
      · have hE : nw ≤ k := ge_i (by omega) (by omega) c
        refine bX10_check_58 (fin _ ?_)
        rw [← hc, show nw - k = 0 by omega]
        rfl
      · have hB : k < nw := lt_i (by omega) (by omega) c
        obtain ⟨f, hf⟩ : ∃ f, nw - k = f + 1 := ⟨nw - k - 1, by omega⟩
        rw [hf] at hc
        have hok : okD (upd s 3 0) (nI k) ↔ k < nd := by
          show (0 ≤ nI k ∧ nI k ≤ upd s 3 0 5 - 1) ↔ _
          rw [upd_ne (by omega), h5, ok_n (by omega) (by omega)]
        refine bX10_check_21 (qX10_isDoing hs1) ?_
        rintro _ _ ⟨rfl, rfl⟩
        refine bX10_check_26 (fun c2 => ?_) (fun c2 => ?_)
        · refine bX10_check_48 (fin _ ?_)
          rw [b2i_z, hok] at c2
          rw [← hc]
          unfold chk0
          rw [if_neg (fun h => c2 h.1)]
          exact ix2 1 k
        · rw [b2i_z, Classical.not_not, hok] at c2
          refine bX10_check_29 (i1 := 360 + k) (ix2 360 k) (by omega) (qX10_ofDoing (w := 1) (i := 33 + 3 * k) hs1 rfl rfl rfl (by omega)) ?_
          rintro _ _ ⟨rfl, rfl⟩
          rw [hs1, upd_ne (by omega), upd_ne (by omega)]
          refine bX10_check_45 (fun c3 => ?_) (fun c3 => ?_)
          · refine bX10_check_52 ?_
            rw [nI_1]
            refine ih (k + 1) (by omega) (by omega) ?_
            rw [← hc, show nw - (k + 1) = f by omega]
            conv => rhs; unfold chk0
            rw [if_pos ⟨c2, c3⟩]
          · refine bX10_check_48 (fin _ ?_)
            rw [← hc]
            unfold chk0
            rw [if_neg (fun h => c3 h.2)]
            exact ix2 1 k
  exact key (nw + 1) 0 (by omega) (by omega) rfl
theorem pX10_feed {d : Nat} {im : XI} {s : Nat → Int32} {np nd : Nat} {w : Int64} {n : Int32} (hs : im 1 = s) (hI : Iv s np nd) : SpI mX10_feed (d + 1) [.ref 0, .long w, .int n] SM im (fun x im' => Pm im (opFeed s (byteM w) n) x im') := by
  refine SpI.of [some (.ref 0), some (.long w), none, some (.int n), none] rfl (by decide) rfl (fun Q hQ => ?_)
  obtain ⟨n0, hn0, h2⟩ := hI.2.2.1
  refine bX10_feed_0 pX10_in ?_
  rintro _ _ ⟨rfl, rfl⟩
  refine bX10_feed_7 (fun c => ?_) (fun c => ?_)
  · rw [b2i_z, Classical.not_not] at c
    have hc1 := c
    refine bX10_feed_16 (fun c2 => ?_) (fun c2 => ?_)
    · rw [hs] at c2
      have hc2 := c2
      obtain ⟨j, hj1, hj2, rfl⟩ := (in_ab (a := 1) (n := 8) rfl rfl (by decide) (by decide)).mp c
      have hj3 : n0 + j ≤ 60 := by rw [h2, nI_add] at c2; exact ge_i (b := 60) (by omega) (by omega) c2
      refine bX10_feed_35 ?_
      have key : ∀ (n k : Nat) (im1 : XI), j < k + n → k ≤ j → im1 1 = fd0 s (byteM w) k → mk im im1 → V mX10_feed (d + 1) (0, 0) 38 [some (.ref 0), some (.long w), none, some (.int (nI j)), some (.int (nI k))] [] SM im1 Q := by
        intro n
        induction n with
        | zero => intro k im1 hn1 hn2; omega
        | succ n ih =>
          intro k im1 hn1 hn2 hs1 hm1
          refine bX10_feed_38   (fun c1 => ?_) (fun c1 => ?_)
          · skip
            have hE : j ≤ k := ge_i (a := j) (b := k) (by omega) (by omega) c1
            refine bX10_feed_87   ?_
            have : k = j := by omega
            subst this
            refine hQ _ _ ?_
            unfold opFeed
            rw [if_neg (not_not_intro hc1), if_neg (not_not_intro hc2), nnat_nI (by omega), hs1, fd0_2 h2 (by omega), h2, nnat_nI (by omega)]
            exact Pm.ok rfl hs1 hm1
          · skip
            have hB : k < j := lt_i (a := j) (b := k) (by omega) (by omega) c1
            refine bX10_feed_44 (i1 := 300 + (n0 + k)) (by rw [hs1, fd0_2 h2 (by omega)]; exact ix2 300 (n0 + k)) (by omega) ?_
            rw [nI_1]
            refine ih (k + 1) _ (by omega) (by omega) ?_ ((hm1.up (mg1 _)).up (mg1 _))
            rw [xup_s, xup_s, hs1, upd_ne (by omega), fd0_2 h2 (by omega), nI_1]
            show _ = upd (upd (fd0 s (byteM w) k) (300 + (nnat (s 2) + k)) (byteM w k)) 2 (nI (nnat (s 2) + (k + 1)))
            rw [h2, nnat_nI (by omega)]
            rfl
      exact key (j + 1) 0 im (by omega) (by omega) hs mk.rf
    · rw [hs] at c2
      refine bX10_feed_29 (pX10_error (k := 4) rfl (by decide)) ?_
      rintro _ _ ⟨rfl, rfl⟩
      refine bX10_feed_34 ?_
      refine hQ _ _ ?_
      unfold opFeed
      rw [if_neg (not_not_intro c), if_pos c2]
      exact Pm.er rfl hs mk.rf (by decide)
  · rw [b2i_z] at c
    refine bX10_feed_10 (pX10_error (k := 1) rfl (by decide)) ?_
    rintro _ _ ⟨rfl, rfl⟩
    refine bX10_feed_15 ?_
    refine hQ _ _ ?_
    unfold opFeed
    rw [if_pos c]
    exact Pm.er rfl hs mk.rf (by decide)
theorem pX10_then {d : Nat} {im : XI} {s : Nat → Int32} {np nd : Nat} {v n : Int32} (hs : im 1 = s) (hI : Iv s np nd) : SpI mX10_then (d + 5) [.ref 0, .int v, .int n] SM im (fun x im' => Pm im (opThen s v n) x im') := by
  refine SpI.of [some (.ref 0), some (.int v), some (.int n), none, none] rfl (by decide) rfl (fun Q hQ => ?_)
  have h4 := hI.1.2.1
  have hnp := hI.1.1
  have h5 := hI.2.1.2.1
  have hnd := hI.2.1.1
  refine bX10_then_0   (qX10_isDoing hs) ?_
  rintro _ _ ⟨rfl, rfl⟩
  try simp only [hs]
  refine bX10_then_5   (fun c2 => ?_) (fun c2 => ?_)
  · skip
    try simp only [b2i_z, Classical.not_not, okP, okD, okSet, hs] at c2
    refine bX10_then_19   (pX10_error (k := 1) rfl (by decide)) ?_
    rintro _ _ ⟨rfl, rfl⟩
    try simp only [hs]
    refine bX10_then_24   ?_
    refine hQ _ _ ?_
    first
      | (rw [show opThen s v n = rE _ s from by unfold opThen; rw [if_pos (by grind)]]; exact Pm.er rfl hs mk.rf (by decide))
      | (rw [show opThen s v n = rE _ s from by unfold opThen; rw [if_neg (by grind), if_pos (by grind)]]; exact Pm.er rfl hs mk.rf (by decide))
  · skip
    try simp only [b2i_z, Classical.not_not, okP, okD, okSet, hs] at c2
    refine bX10_then_8   pX10_in ?_
    rintro _ _ ⟨rfl, rfl⟩
    try simp only [hs]
    refine bX10_then_16   (fun c5 => ?_) (fun c5 => ?_)
    · skip
      try simp only [b2i_z, Classical.not_not, okP, okD, okSet, hs] at c5
      have hc1 : okD s v ∧ 0 ≤ n ∧ n ≤ 200 := ⟨by assumption, by assumption⟩
      obtain ⟨e, he, rfl⟩ := (in_n (n := nd) (by omega)).mp (by rw [← h5]; assumption)
      have hv : nnat (nI e) = e := nnat_nI (by omega)
      obtain ⟨j, hj, rfl⟩ := (in_c (x := n) (n := 200) rfl (by decide)).mp (by assumption)
      refine bX10_then_25   pX10_layDown ?_
      rintro _ rfl
      try simp only [hs]
      refine bX10_then_29   ?_
      have key : ∀ (n k : Nat) (im1 : XI), j < k + n → k ≤ j → im1 1 = rowK s e k → mk (ovl im 3 1 50) im1 → V mX10_then (d + 5) (0, 0) 31 [some (.ref 0), some (.int (nI e)), some (.int (nI j)), some (.int (nI k)), none] [] SM im1 Q := by
        intro n
        induction n with
        | zero => intro k im1 hn1 hn2; omega
        | succ n ih =>
          intro k im1 hn1 hn2 hs1 hm1
          refine bX10_then_31   (fun c1 => ?_) (fun c1 => ?_)
          · skip
            have hE : j ≤ k := ge_i (a := j) (b := k) (by omega) (by omega) c1
            refine bX10_then_63   (qX10_ofDoing (w := 1) (i := 33 + 3 * e) hs1 rfl rfl rfl (by omega)) ?_
            rintro _ _ ⟨rfl, rfl⟩
            refine bX10_then_69   pX10_layBack ?_
            rintro _ rfl
            refine bX10_then_74   ?_
            have : k = j := by omega
            subst this
            refine hQ _ _ ?_
            unfold opThen
            rw [if_neg (not_not_intro hc1), nnat_nI (by omega), nnat_nI (by omega)]
            refine Pm.okL ?_ ?_ ?_
            · unfold rowK; rw [upd_ne (by omega), upd_at]
            · exact back_s (fun q hq => lay_3 hs hm1 hq) hs1 (fun q hq => rowK_50 hq (by omega))
            · exact (mkL_lay im).tr (mk_ovl hm1).L
          · skip
            have hB : k < j := lt_i (a := j) (b := k) (by omega) (by omega) c1
            have hIk := rowK_Iv hI he k
            refine bX10_then_36   (pX10_shutNow hs1 hIk) ?_
            rintro _ im4 ⟨rfl, hs4, hm4⟩
            refine bX10_then_42  (by first | rfl | assumption) (pX10_getsOn hs4 hIk he) ?_
            rintro _ im5 ⟨rfl, hs5, hm5⟩
            refine bX10_then_45   ?_
            rw [nI_1]
            refine ih (k + 1) _ (by omega) (by omega) ?_ ((((((hm1).tr hm4)).tr hm5)).up (mg1 _))
            rw [xup_s, hs5, rowK_s hI he]
      exact key (j + 1) 0 _ (by omega) (by omega) (by rw [lay_1, hs, rowK_0]) mk.rf
    · skip
      try simp only [b2i_z, Classical.not_not, okP, okD, okSet, hs] at c5
      refine bX10_then_19   (pX10_error (k := 1) rfl (by decide)) ?_
      rintro _ _ ⟨rfl, rfl⟩
      try simp only [hs]
      refine bX10_then_24   ?_
      refine hQ _ _ ?_
      first
        | (rw [show opThen s v n = rE _ s from by unfold opThen; rw [if_pos (by grind)]]; exact Pm.er rfl hs mk.rf (by decide))
        | (rw [show opThen s v n = rE _ s from by unfold opThen; rw [if_neg (by grind), if_pos (by grind)]]; exact Pm.er rfl hs mk.rf (by decide))

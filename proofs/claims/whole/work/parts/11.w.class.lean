theorem pX9_tell {d : Nat} {im : XI} {bo : Bool} {s : Nat → Int32} {np nd : Nat} {v : Int32} (hR : RI 0 s im) (hI : Iv s np nd) : SpI mX9_tell (d + 2) [.ref 0, .int v] (SC bo) im (fun x im' => Pc im (opTell s v) x im') := by
  refine SpI.of [some (.ref 0), some (.int v)] rfl (by decide) rfl (fun Q hQ => ?_)
  obtain ⟨n2, hn2, e2, m2⟩ := nn2 hI
  obtain ⟨n3, hn3, e3, m3⟩ := nn3 hI
  have w1 : im 14 1 = nI n3 := hR.2.2.2.2.1.1.trans e3
  refine bX9_tell_0 (pX6_add xwait.1 xwait.2.1 xwait.2.2 w1 hn3) ?_
  rintro x im1 (⟨hlt, rfl, rfl⟩ | ⟨heq, rfl, him⟩)
  · refine bX9_tell_11 (fun _ => ?_) (fun c => absurd c (by decide))
    refine bX9_tell_21 (pX6_size xwait.1) ?_
    rintro _ _ ⟨rfl, rfl⟩
    refine bX9_tell_31 ?_
    refine hQ _ _ ?_
    unfold opTell
    rw [if_neg (by rw [e3]; exact fun h => by have := (nI_eq (b := 24) (by omega) (by omega)).mp h; omega), m3, e3, nI_1]
    refine Pc.ok xup_at (hR.rows hI (fun i h1 h2 h3 => by rw [upd_ne h2, upd_ne (by omega)]) (fun a h1 h2 h3 h4 h5 => by rw [xup_o (by omega), xup_o (by omega)]) ⟨?_, ?_⟩ ⟨?_, ?_⟩) ((kK.rf.up (by omega)).up (by omega))
    · show xup (xup im 15 n3 v) 14 1 (nI (n3 + 1)) 12 1 = _
      rw [xup_o (by decide), xup_o (by decide), upd_ne (by decide), upd_ne (by omega)]
      exact hR.2.2.2.1.1
    · intro i hi
      rw [upd_ne (by decide), upd_ne (by omega), m2] at hi
      show xup (xup im 15 n3 v) 14 1 (nI (n3 + 1)) 13 i = _
      rw [xup_o (by decide), xup_o (by decide), upd_ne (by omega), upd_ne (by omega)]
      exact hR.2.2.2.1.2 i (by rw [m2]; exact hi)
    · rw [upd_at]; exact xup_at
    · intro i hi
      rw [upd_at, nnat_nI (by omega)] at hi
      show xup (xup im 15 n3 v) 14 1 (nI (n3 + 1)) 15 i = _
      rw [xup_o (by decide), upd_ne (by omega)]
      by_cases e : i = n3
      · subst e
        rw [xup_at, upd_at]
      · rw [xup_ne e, upd_ne (by omega)]
        exact hR.2.2.2.2.1.2 i (by rw [m3]; omega)
  · rw [him]
    refine bX9_tell_11 (fun c => absurd rfl c) (fun _ => ?_)
    refine bX9_tell_14 (pX9_fail (k := 4) (by decide) (by decide) (by decide)) ?_
    rintro _ _ ⟨rfl, rfl⟩
    refine bX9_tell_20 ?_
    refine hQ _ _ ?_
    unfold opTell
    rw [if_pos (by rw [e3, heq]; rfl)]
    exact Pc.er hI rfl hR kK.rf (by decide)
theorem chk0_1 {s : Nat → Int32} {nd f k : Nat} (h : k < nd ∧ s (360 + k) = s (33 + 3 * k)) : chk0 s nd (f + 1) k = chk0 s nd f (k + 1) := by
  show (if k < nd ∧ s (360 + k) = s (33 + 3 * k) then _ else _) = _
  rw [if_pos h]
theorem chk0_2 {s : Nat → Int32} {nd f k : Nat} (h : ¬ (k < nd ∧ s (360 + k) = s (33 + 3 * k))) : chk0 s nd (f + 1) k = nI (1 + k) := by
  show (if k < nd ∧ s (360 + k) = s (33 + 3 * k) then _ else _) = _
  rw [if_neg h]
theorem pX9_check {d : Nat} {im : XI} {bo : Bool} {s : Nat → Int32} {np nd : Nat}  (hR : RI 0 s im) (hI : Iv s np nd) : SpI mX9_check (d + 2) [.ref 0] (SC bo) im (fun x im' => Pc im (opCheck s ) x im') := by
  refine SpI.of [some (.ref 0), none, none, none] rfl (by decide) rfl (fun Q hQ => ?_)
  obtain ⟨n2, hn2, e2, m2⟩ := nn2 hI
  obtain ⟨n3, hn3, e3, m3⟩ := nn3 hI
  have hnd := hI.2.1.1
  have w1 : im 14 1 = nI n3 := hR.2.2.2.2.1.1.trans e3
  have w2 : ∀ k, k < n3 → im 15 k = s (360 + k) := fun k hk => hR.2.2.2.2.1.2 k (by rw [m3]; exact hk)
  have fin : ∀ (f k : Nat), k + f = n3 → chk0 s nd f k = chk0 s nd n3 0 → (f = 0 ∨ ¬ (k < nd ∧ s (360 + k) = s (33 + 3 * k))) → V mX9_check (d + 2) (0, 0) 55 [some (.ref 0), some (.ref 14), some (.int (nI k)), none] [] (SC bo) im Q := by
    intro f k hkf hc hend
    refine bX9_check_55 xwait.1 (pX6_size xwait.1) ?_
    rintro _ _ ⟨rfl, rfl⟩
    rw [w1]
    have go : ∀ z : Int32, (z = 0 ↔ ¬ f = 0) → (z = 0 ∨ z = 1) → V mX9_check (d + 2) (0, 0) 68 [some (.ref 0), some (.ref 14), some (.int (nI k)), none] [.int z] (SC bo) im Q := by
      intro z hz hz01
      refine bX9_check_68 xwait.1 (pX6_clear xwait.1) ?_
      rintro _ rfl
      have fin2 : ∀ y : Int32, y = chk0 s nd n3 0 → V mX9_check (d + 2) (0, 0) 84 [some (.ref 0), some (.ref 14), some (.int (nI k)), some (.int z)] [.int y] (SC bo) (xup im 14 1 0) Q := by
        intro y hy
        refine bX9_check_84 ?_
        refine hQ _ _ ?_
        unfold opCheck
        rw [nnd hI, m3]
        refine Pc.ok hy (hR.rows hI (fun i h1 h2 h3 => upd_ne h2) (fun a h1 h2 h3 h4 h5 => xup_o (by omega)) ⟨?_, ?_⟩ ⟨?_, ?_⟩) (kK.rf.up (by omega))
        · show xup im 14 1 0 12 1 = _
          rw [xup_o (by decide), upd_ne (by decide)]
          exact hR.2.2.2.1.1
        · intro i hi
          rw [upd_ne (by decide), m2] at hi
          show xup im 14 1 0 13 i = _
          rw [xup_o (by decide), upd_ne (by omega)]
          exact hR.2.2.2.1.2 i (by rw [m2]; exact hi)
        · rw [upd_at]; exact xup_at
        · intro i hi
          rw [upd_at] at hi
          exact absurd hi (Nat.not_lt_zero i)
      refine bX9_check_73 (fun h => ?_) (fun h => ?_)
      · have hf := hz.mp h
        refine bX9_check_81 ?_
        refine fin2 _ ?_
        obtain ⟨g, rfl⟩ : ∃ g, f = g + 1 := ⟨f - 1, by omega⟩
        rw [← hc, chk0_2 (hend.resolve_left hf), show (1 : Int32) = nI 1 from rfl, nI_add]
      · have hf : f = 0 := Classical.byContradiction (fun g => h (hz.mpr g))
        refine bX9_check_77 ?_
        refine fin2 _ ?_
        rw [← hc, hf]
        rfl
    refine bX9_check_60 (fun h => ?_) (fun h => ?_)
    · refine bX9_check_67 ?_
      exact go 0 ⟨fun _ hf => h (by rw [show k = n3 by omega]), fun _ => rfl⟩ (Or.inl rfl)
    · refine bX9_check_63 ?_
      have := (nI_eq (by omega) (by omega)).mp h
      exact go 1 ⟨fun h => absurd h (by decide), fun hf => absurd (by omega) hf⟩ (Or.inr rfl)
  have key : ∀ (f k : Nat), k + f = n3 → k ≤ nd → chk0 s nd f k = chk0 s nd n3 0 → V mX9_check (d + 2) (0, 0) 10 [some (.ref 0), some (.ref 14), some (.int (nI k)), none] [] (SC bo) im Q := by
    intro f
    induction f with
    | zero =>
      intro k hk hkn hc
      refine bX9_check_10 xwait.1 (pX6_size xwait.1) ?_
      rintro _ _ ⟨rfl, rfl⟩
      rw [w1]
      refine bX9_check_15 (fun _ => fin 0 k hk hc (Or.inl rfl)) (fun c => absurd (nI_le (by omega) (by omega)) c)
    | succ f ih =>
      intro k hk hkn hc
      refine bX9_check_10 xwait.1 (pX6_size xwait.1) ?_
      rintro _ _ ⟨rfl, rfl⟩
      rw [w1]
      refine bX9_check_15 (fun c => absurd (ge_i (by omega) (by omega) c) (by omega)) (fun _ => ?_)
      refine bX9_check_18 (pX2_hasDoing hR) ?_
      rintro x im1 ⟨hx, hm⟩
      subst hm
      refine bX9_check_26 (fun c => ?_) (fun c => ?_)
      · rw [hx, b2i_z, okD_n hI.2.1.2.1 hnd (by omega)] at c
        exact fin (f + 1) k hk hc (Or.inr (fun h => c h.1))
      rw [hx, b2i_nz, okD_n hI.2.1.2.1 hnd (by omega)] at c
      refine bX9_check_29 xwait.1 (pX6_at xwait.1 xwait.2.1 xwait.2.2 w1 hn3 rfl (by omega)) ?_
      rintro _ _ ⟨rfl, rfl⟩
      rw [w2 k (by omega)]
      refine bX9_check_34 rfl (by omega) (fun c2 => ?_) (fun c2 => ?_)
      · rw [(doW hI hR c).1] at c2
        exact fin (f + 1) k hk hc (Or.inr (fun h => c2 h.2))
      · rw [(doW hI hR c).1] at c2
        refine bX9_check_49 ?_
        rw [nI_1]
        exact ih (k + 1) (by omega) (by omega) (by rw [← hc, chk0_1 ⟨c, c2⟩])
  refine bX9_check_0 ?_
  exact key n3 0 (by omega) (by omega) rfl
theorem pX9_count {d : Nat} {im : XI} {bo : Bool} {s : Nat → Int32} {np nd : Nat} {w : Int32} (hR : RI 0 s im) (hI : Iv s np nd) : SpI mX9_count (d + 2) [.ref 0, .int w] (SC bo) im (fun x im' => Pc im (opCount s (im 34 1) w) x im') := by
  refine SpI.of [some (.ref 0), some (.int w)] rfl (by decide) rfl (fun Q hQ => ?_)
  refine bX9_count_0 (fun h => ?_) (fun h => ?_) (fun h => ?_) (fun h => ?_) (fun h => ?_) (fun h => ?_) (fun h => ?_) (fun h => ?_) (fun h0 h1 h2 h3 h4 h5 h6 h7 => ?_)
  · subst h
    refine bX9_count_48 ?_
    refine hQ _ _ ?_
    unfold opCount
    rw [if_pos rfl]
    exact Pc.ok hR.1.1 hR kK.rf
  · subst h
    refine bX9_count_56 ?_
    refine hQ _ _ ?_
    unfold opCount
    rw [if_neg (by decide), if_pos rfl]
    exact Pc.ok hR.1.2.1 hR kK.rf
  · subst h
    refine bX9_count_64 ?_
    refine hQ _ _ ?_
    unfold opCount
    rw [if_neg (by decide), if_neg (by decide), if_pos rfl]
    exact Pc.ok (nowW hR) hR kK.rf
  · subst h
    refine bX9_count_72 (pX2_partsTogether hR hI) ?_
    rintro _ _ ⟨rfl, rfl⟩
    refine bX9_count_79 ?_
    refine hQ _ _ ?_
    unfold opCount
    rw [if_neg (by decide), if_neg (by decide), if_neg (by decide), if_pos rfl]
    exact Pc.ok rfl hR kK.rf
  · subst h
    refine bX9_count_80 (pX6_size xtape.1) ?_
    rintro _ _ ⟨rfl, rfl⟩
    refine bX9_count_90 ?_
    refine hQ _ _ ?_
    unfold opCount
    rw [if_neg (by decide), if_neg (by decide), if_neg (by decide), if_neg (by decide), if_pos rfl]
    exact Pc.ok hR.2.2.2.1.1 hR kK.rf
  · subst h
    refine bX9_count_91 (pX6_size xwait.1) ?_
    rintro _ _ ⟨rfl, rfl⟩
    refine bX9_count_101 ?_
    refine hQ _ _ ?_
    unfold opCount
    rw [if_neg (by decide), if_neg (by decide), if_neg (by decide), if_neg (by decide), if_neg (by decide), if_pos rfl]
    exact Pc.ok hR.2.2.2.2.1.1 hR kK.rf
  · subst h
    refine bX9_count_102 (pX6_size xtr.1) ?_
    rintro _ _ ⟨rfl, rfl⟩
    refine bX9_count_112 ?_
    refine hQ _ _ ?_
    unfold opCount
    rw [if_neg (by decide), if_neg (by decide), if_neg (by decide), if_neg (by decide), if_neg (by decide), if_neg (by decide), if_pos rfl]
    exact Pc.ok rfl hR kK.rf
  · subst h
    refine bX9_count_113 ?_
    refine hQ _ _ ?_
    unfold opCount
    rw [if_neg (by decide), if_neg (by decide), if_neg (by decide), if_neg (by decide), if_neg (by decide), if_neg (by decide), if_neg (by decide), if_pos rfl]
    exact Pc.ok hR.1.2.2.2 hR kK.rf
  · skip
    refine bX9_count_121 (pX9_fail (k := 1) (by decide) (by decide) (by decide)) ?_
    rintro _ _ ⟨rfl, rfl⟩
    refine bX9_count_127 ?_
    refine hQ _ _ ?_
    unfold opCount
    rw [if_neg h0, if_neg h1, if_neg h2, if_neg h3, if_neg h4, if_neg h5, if_neg h6, if_neg h7]
    exact Pc.er hI rfl hR kK.rf (by decide)
theorem pX9_told {d : Nat} {im : XI} {bo : Bool} {s : Nat → Int32} {np nd : Nat} {w : Int32} (hR : RI 0 s im) (hI : Iv s np nd) : SpI mX9_told (d + 2) [.ref 0, .int w] (SC bo) im (fun x im' => Pc im (opTold s (im 37) w) x im') := by
  refine SpI.of [some (.ref 0), some (.int w)] rfl (by decide) rfl (fun Q hQ => ?_)
  refine bX9_told_0 pX9_within ?_
  rintro x0 im1 ⟨hx, hm⟩
  subst hm
  refine bX9_told_7 (fun c => ?_) (fun c => ?_)
  rotate_left
  · rw [hx, b2i_z] at c
    refine bX9_told_10 (pX9_fail (k := 1) (by decide) (by decide) (by decide)) ?_
    rintro _ _ ⟨rfl, rfl⟩
    refine bX9_told_16 ?_
    refine hQ _ _ ?_
    unfold opTold
    rw [if_pos c]
    exact Pc.er hI rfl hR kK.rf (by decide)
  rw [hx, b2i_nz] at c
  obtain ⟨j, hj1, hj6, rfl⟩ := (in_ab (x := w) (a := 1) (n := 6) rfl rfl (by decide) (by decide)).mp c
  refine bX9_told_17 rfl (by omega) ?_
  refine hQ _ _ ?_
  unfold opTold
  rw [if_neg (not_not_intro c), nnat_nI (by omega)]
  exact Pc.ok rfl hR kK.rf
theorem pX9_body {d : Nat} {im : XI} {bo : Bool} {s : Nat → Int32} {np nd : Nat} {v : Int32} {n : Nat} (hR : RI 0 s im) (hI : Iv s np nd) (ht : im 34 1 = nI n) (hn : n ≤ 30) : SpI mX9_body (d + 2) [.ref 0, .int v] (SC bo) im (fun x im' => Pc im (opBody (im 34 1) (im 35) s v) x im') := by
  refine SpI.of [some (.ref 0), some (.int v)] rfl (by decide) rfl (fun Q hQ => ?_)
  refine bX9_body_0 (pX6_size xtr.1) ?_
  rintro _ _ ⟨rfl, rfl⟩
  refine bX9_body_12 pX9_within ?_
  rintro x0 im1 ⟨hx, hm⟩
  subst hm
  refine bX9_body_17 (fun c => ?_) (fun c => ?_)
  rotate_left
  · rw [hx, b2i_z] at c
    refine bX9_body_20 (pX9_fail (k := 2) (by decide) (by decide) (by decide)) ?_
    rintro _ _ ⟨rfl, rfl⟩
    refine bX9_body_26 ?_
    refine hQ _ _ ?_
    unfold opBody
    rw [if_pos c]
    exact Pc.er hI rfl hR kK.rf (by decide)
  rw [hx, b2i_nz] at c
  obtain ⟨k, hk, rfl⟩ := (in_n (n := n) (by omega)).mp (show 0 ≤ v ∧ v ≤ nI n - 1 by rw [← ht]; exact c)
  refine bX9_body_27 (pX6_at xtr.1 xtr.2.1 xtr.2.2 ht hn rfl hk) ?_
  rintro _ _ ⟨rfl, rfl⟩
  refine bX9_body_38 ?_
  refine hQ _ _ ?_
  unfold opBody
  rw [if_neg (not_not_intro c), nnat_nI (by omega)]
  exact Pc.ok rfl hR kK.rf

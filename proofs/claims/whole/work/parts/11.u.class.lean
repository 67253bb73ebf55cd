theorem pX9_feed {d : Nat} {im : XI} {bo : Bool} {s : Nat → Int32} {np nd : Nat} {w : Int64} {n : Int32} (hR : RI 0 s im) (hI : Iv s np nd) : SpI mX9_feed (d + 2) [.ref 0, .long w, .int n] (SC bo) im (fun x im' => Pc im (opFeed s (byteM w) n) x im') := by
  refine SpI.of [some (.ref 0), some (.long w), none, some (.int n), none] rfl (by decide) rfl (fun Q hQ => ?_)
  obtain ⟨n2, hn2, e2, m2⟩ := nn2 hI
  obtain ⟨n3, hn3, e3, m3⟩ := nn3 hI
  have t1 : im 12 1 = nI n2 := hR.2.2.2.1.1.trans e2
  refine bX9_feed_0 pX9_within ?_
  rintro x0 im1 ⟨hx, hm⟩
  subst hm
  refine bX9_feed_7 (fun c => ?_) (fun c => ?_)
  rotate_left
  · rw [hx, b2i_z] at c
    refine bX9_feed_10 (pX9_fail (k := 1) (by decide) (by decide) (by decide)) ?_
    rintro _ _ ⟨rfl, rfl⟩
    refine bX9_feed_16 ?_
    refine hQ _ _ ?_
    unfold opFeed
    rw [if_pos c]
    exact Pc.er hI rfl hR kK.rf (by decide)
  rw [hx, b2i_nz] at c
  obtain ⟨j, hj1, hj8, rfl⟩ := (in_ab (x := n) (a := 1) (n := 8) rfl rfl (by decide) (by decide)).mp c
  have hjn : nnat (nI j) = j := nnat_nI (by omega)
  refine bX9_feed_17 (pX6_size xtape.1) ?_
  rintro _ _ ⟨rfl, rfl⟩
  rw [t1]
  refine bX9_feed_27 (fun c2 => ?_) (fun c2 => ?_)
  rotate_left
  · skip
    refine bX9_feed_34 (pX9_fail (k := 4) (by decide) (by decide) (by decide)) ?_
    rintro _ _ ⟨rfl, rfl⟩
    refine bX9_feed_40 ?_
    refine hQ _ _ ?_
    unfold opFeed
    rw [if_neg (not_not_intro c), if_pos (by rw [e2]; exact c2)]
    exact Pc.er hI rfl hR kK.rf (by decide)
  have h60 : n2 + j ≤ 60 := by
    rw [nI_add] at c2
    exact ge_i (b := 60) (by omega) (by omega) c2
  have key : ∀ (g k : Nat) (im1 : XI), k + g = j → im1 12 1 = nI (n2 + k) → (∀ q, q < n2 → im1 13 q = im 13 q) → (∀ q, q < k → im1 13 (n2 + q) = byteM w q) → (∀ a, a ≠ 12 → a ≠ 13 → im1 a = im a) → V mX9_feed (d + 2) (0, 0) 44 [some (.ref 0), some (.long w), none, some (.int (nI j)),  some (.int (nI k))] [] (SC bo) im1 Q := by
    intro g
    induction g with
    | zero =>
      intro k im1 hk h12 hlo hhi ho
      obtain rfl : k = j := by omega
      refine bX9_feed_44 (fun _ => ?_) (fun d1 => absurd (Int32.le_refl _) d1)
      refine bX9_feed_79 (pX6_size xtape.1) ?_
      rintro _ _ ⟨rfl, rfl⟩
      refine bX9_feed_89 ?_
      refine hQ _ _ ?_
      unfold opFeed
      rw [if_neg (not_not_intro c), if_neg (not_not_intro (by rw [e2]; exact c2)), hjn, m2, h12]
      have f2 : fd0 s (byteM w) k 2 = nI (n2 + k) := fd0_2 e2 hn2 k
      have fo : ∀ i, i ≠ 2 → (i < 300 + n2 ∨ 300 + n2 + k ≤ i) → fd0 s (byteM w) k i = s i := fun i h1 h2 => fd0_o h1 (by rw [m2]; exact h2)
      refine Pc.ok rfl (hR.rows hI (fun i h1 h2 h3 => fo i h1 (by omega)) (fun a h1 h2 h3 h4 h5 => ho a (by omega) (by omega)) ⟨?_, ?_⟩ ⟨?_, ?_⟩) (fun a i ha => by rw [ho a (by omega) (by omega)])
      · rw [f2]; exact h12
      · intro i hi
        rw [f2, nnat_nI (by omega)] at hi
        show im1 13 i = _
        by_cases hin : i < n2
        · rw [hlo i hin, fo _ (by omega) (by omega)]
          exact hR.2.2.2.1.2 i (by rw [m2]; exact hin)
        · obtain ⟨q, rfl⟩ : ∃ q, i = n2 + q := ⟨i - n2, by omega⟩
          rw [hhi q (by omega)]
          have := fd0_at (s := s) (by0 := byteM w) (k := k) (j := q) (by omega)
          rw [m2] at this
          exact this.symm
      · show im1 14 1 = _
        rw [ho 14 (by omega) (by omega), fo 3 (by omega) (by omega)]
        exact hR.2.2.2.2.1.1
      · intro i hi
        rw [fo 3 (by omega) (by omega), m3] at hi
        show im1 15 i = _
        rw [ho 15 (by omega) (by omega), fo _ (by omega) (by omega)]
        exact hR.2.2.2.2.1.2 i (by rw [m3]; exact hi)
    | succ g ih =>
      intro k im1 hk h12 hlo hhi ho
      refine bX9_feed_44 (fun d1 => absurd (ge_i (by omega) (by omega) d1) (by omega)) (fun _ => ?_)
      refine bX9_feed_50 (pX6_add xtape.1 xtape.2.1 xtape.2.2 h12 (by omega)) ?_
      rintro x im2 (⟨_, _, rfl⟩ | ⟨h, _⟩)
      rotate_left
      · omega
      refine bX9_feed_72 ?_
      rw [nI_1]
      refine ih (k + 1) _ (by omega) xup_at ?_ ?_ ?_
      · intro q hq
        rw [xup_o (by decide), xup_ne (by omega)]
        exact hlo q hq
      · intro q hq
        rw [xup_o (by decide)]
        by_cases e : q = k
        · subst e
          rw [xup_at]
          exact byteC_M w (by omega)
        · rw [xup_ne (by omega)]
          exact hhi q (by omega)
      · intro a h1 h2
        rw [xup_o h1, xup_o h2]
        exact ho a h1 h2
  refine bX9_feed_41 ?_
  exact key j 0 im (by omega) t1 (fun _ _ => rfl) (fun q hq => absurd hq (Nat.not_lt_zero q)) (fun _ _ _ => rfl)
theorem pX2_lawOf {d : Nat} {im : XI} {bo : Bool} {u : Nat} {v : Int32} (hv : v = nI u) (hu : u < 2) : SpR mX2_lawOf d [.ref 1, .int v] (SC bo) im (fun x im' => x = 4 + 4 * u ∧ im = im') := by
  refine SpR.of [some (.ref 1), some (.int v)] rfl (by decide) rfl (fun Q hQ => ?_)
  subst hv
  match u, hu with
  | 0, _ =>
    refine bX2_lawOf_0 (fun c => absurd rfl c) (fun _ => ?_)
    refine bX2_lawOf_4 ?_
    refine bX2_lawOf_15 ?_
    exact hQ _ _ ⟨rfl, rfl⟩
  | 1, _ =>
    refine bX2_lawOf_0 (fun _ => ?_) (fun c => absurd c (by decide))
    refine bX2_lawOf_11 ?_
    refine bX2_lawOf_15 ?_
    exact hQ _ _ ⟨rfl, rfl⟩
theorem pX9_untell {d : Nat} {im : XI} {bo : Bool} {s : Nat → Int32} {np nd : Nat} {v : Int32} (hR : RI 0 s im) (hI : Iv s np nd) : SpI mX9_untell (d + 2) [.ref 0, .int v] (SC bo) im (fun x im' => Pc im (opUntell s v) x im') := by
  refine SpI.of [some (.ref 0), some (.int v), none, none] rfl (by decide) rfl (fun Q hQ => ?_)
  refine bX9_untell_0 pX9_isUse ?_
  rintro x0 im1 ⟨hx, hm⟩
  subst hm
  refine bX9_untell_4 (fun c => ?_) (fun c => ?_)
  rotate_left
  · rw [hx, b2i_z] at c
    refine bX9_untell_7 (pX9_fail (k := 1) (by decide) (by decide) (by decide)) ?_
    rintro _ _ ⟨rfl, rfl⟩
    refine bX9_untell_13 ?_
    refine hQ _ _ ?_
    unfold opUntell
    rw [if_pos c]
    exact Pc.er hI rfl hR kK.rf (by decide)
  rw [hx, b2i_nz] at c
  obtain ⟨u, hu1, rfl⟩ := (in_c (x := v) (n := 1) rfl (by decide)).mp c
  have hu : u < 2 := by omega
  have hun : nnat (nI u) = u := nnat_nI (by omega)
  have hL : LwR 0 s u im := by
    match u, hu with
    | 0, _ => exact hR.l0
    | 1, _ => exact hR.l1
  refine bX9_untell_14 (pX2_lawOf rfl hu) ?_
  rintro _ _ ⟨rfl, rfl⟩
  obtain ⟨l0, l3, cnt, hcnt, l1, l2⟩ := id hL
  have l3 : im (4 + 4 * u) 3 = b2i (0 < s (50 + 125 * u)) := l3
  have fin : ∀ z : Int32, z = (if 0 < s (50 + 125 * u) then 1 else 0) → V mX9_untell (d + 2) (0, 0) 35 [some (.ref 0), some (.int (nI u)), some (.ref (4 + 4 * u)), none] [.int z] (SC bo) im Q := by
    intro z hz
    refine bX9_untell_35 (xlaw hu).1 ?_
    refine hQ _ _ ?_
    unfold opUntell
    rw [if_neg (not_not_intro c), hun]
    refine Pc.ok hz ?_ (kK.rf.up (by omega))
    have lu : LwR 0 (upd s (50 + 125 * u) 0) u (xup im (4 + 4 * u) 3 0) := by
      refine ⟨(xup_ne (by decide)).trans l0, ?_, cnt, hcnt, (congrFun (xup_o (by omega)) 1).trans l1, fun h => ?_⟩
      · show xup im (4 + 4 * u) 3 0 (4 + 4 * u) 3 = _
        rw [xup_at, upd_at, b2i_f (by decide)]
      · rw [upd_at] at h
        exact absurd h (by decide)
    refine hR.laws hI (fun k hk => upd_ne (by omega)) (fun k hk => upd_ne (by omega)) (fun a h1 h2 h3 => xup_o (by omega)) ?_ ?_
    · match u, hu with
      | 0, _ => exact lu
      | 1, _ => exact hR.l0.ext2 (fun k h1 h2 => upd_ne (by omega)) (fun a h1 h2 => xup_o (by omega))
    · match u, hu with
      | 0, _ => exact hR.l1.ext2 (fun k h1 h2 => upd_ne (by omega)) (fun a h1 h2 => xup_o (by omega))
      | 1, _ => exact lu
  refine bX9_untell_22 (xlaw hu).1 (fun h => ?_) (fun h => ?_)
  · rw [l3, b2i_z] at h
    refine bX9_untell_34 ?_
    exact fin 0 (if_neg h).symm
  · rw [l3, b2i_nz] at h
    refine bX9_untell_30 ?_
    exact fin 1 (if_pos h).symm
theorem pX9_law {d : Nat} {im : XI} {bo : Bool} {s : Nat → Int32} {np nd : Nat} {v a b e : Int32} (hR : RI 0 s im) (hI : Iv s np nd) : SpI mX9_law (d + 3) [.ref 0, .int v, .int a, .int b, .int e] (SC bo) im (fun x im' => Pc im (opLaw s v a b e) x im') := by
  refine SpI.of [some (.ref 0), some (.int v), some (.int a), some (.int b), some (.int e)] rfl (by decide) rfl (fun Q hQ => ?_)
  refine bX9_law_0 pX9_isUse ?_
  rintro x0 im1 ⟨hx, hm⟩
  subst hm
  refine bX9_law_4 (fun c => ?_) (fun c => ?_)
  rotate_left
  · rw [hx, b2i_z] at c
    refine bX9_law_7 (pX9_fail (k := 1) (by decide) (by decide) (by decide)) ?_
    rintro _ _ ⟨rfl, rfl⟩
    refine bX9_law_13 ?_
    refine hQ _ _ ?_
    unfold opLaw
    rw [if_pos c]
    exact Pc.er hI rfl hR kK.rf (by decide)
  rw [hx, b2i_nz] at c
  obtain ⟨u, hu1, rfl⟩ := (in_c (x := v) (n := 1) rfl (by decide)).mp c
  have hu : u < 2 := by omega
  have hun : nnat (nI u) = u := nnat_nI (by omega)
  have hL : LwR 0 s u im := by
    match u, hu with
    | 0, _ => exact hR.l0
    | 1, _ => exact hR.l1
  refine bX9_law_14 (pX2_lawOf rfl hu) ?_
  rintro _ _ ⟨rfl, rfl⟩
  have hop : opLaw s (nI u) a b e = rO (if nI u = 0 then told0 s a b e else on0 s a b e) s := by unfold opLaw; rw [if_neg (not_not_intro c)]
  match u, hu with
  | 0, _ =>
    refine bX9_law_22 (xlaw (u := 0) (by omega)).1 (pX3_gives_0 hR.l0 (RI.texts hI).1) ?_
    rintro _ im2 ⟨rfl, hk⟩
    refine bX9_law_29 ?_
    refine hQ _ _ ?_
    rw [hop, if_pos (show nI 0 = 0 from rfl)]
    exact Pc.ok rfl (hR.kC hI hk) hk.K
  | 1, _ =>
    refine bX9_law_22 (xlaw (u := 1) (by omega)).1 (pX3_gives_1 hR.l1 (RI.texts hI).2) ?_
    rintro _ im2 ⟨rfl, hk⟩
    refine bX9_law_29 ?_
    refine hQ _ _ ?_
    rw [hop, if_neg (show ¬ nI 1 = 0 by decide)]
    exact Pc.ok rfl (hR.kC hI hk) hk.K
theorem pX3_give {d : Nat} {im : XI} {bo : Bool} {u m : Nat} (hu : u < 2) (hf : im 29 1 = nI m) (hm : m ≤ 60) : SpV mX3_give (d + 3) [.ref (4 + 4 * u), .ref 29] (SC bo) im (fun im' => (∀ k, k < m → im' (6 + 4 * u) k = im 30 k) ∧ im' (5 + 4 * u) 1 = nI m ∧ im' (4 + 4 * u) 3 = 1 ∧ im' (4 + 4 * u) 0 = im (4 + 4 * u) 0 ∧ ∀ a, a ≠ 4 + 4 * u → a ≠ 5 + 4 * u → a ≠ 6 + 4 * u → im' a = im a) := by
  refine SpV.of [some (.ref (4 + 4 * u)), some (.ref 29)] rfl (by decide) rfl (fun Q hQ => ?_)
  obtain ⟨x0, x1, x2, x3, x4, x5, x6⟩ := xlaw (bo := bo) hu
  refine bX3_give_0 x0 x1 x3 (pX6_beLike x3 x4 x5 xcode.1 xcode.2.1 xcode.2.2 hf hm hm (by omega) (by omega) (by omega)) ?_
  rintro im1 ⟨e1, e2, e3⟩
  refine bX3_give_8 x0 ?_
  refine hQ _ ⟨fun k hk => ?_, ?_, xup_at, ?_, fun a h1 h2 h3 => ?_⟩
  · rw [xup_o (by omega)]; exact e2 k hk
  · rw [xup_o (by omega)]; exact e1
  · rw [xup_ne (by decide)]; exact e3 _ _ (by omega) (by omega)
  · rw [xup_o h1]
    funext k
    exact e3 a k (by omega) (by omega)
theorem pX5_fault {d : Nat} {im : XI} {bo : Bool}  : SpI mX5_fault d [.ref 28] (SC bo) im (fun x im' => x = im 28 3 ∧ im = im') := by
  refine SpI.of [some (.ref 28)] rfl (by decide) rfl (fun Q hQ => ?_)
  refine bX5_fault_0 ?_
  exact hQ _ _ ⟨rfl, rfl⟩
theorem pX9_text {d : Nat} {im : XI} {bo : Bool} {s : Nat → Int32} {np nd : Nat} {v : Int32} (hR : RI 0 s im) (hI : Iv s np nd) : SpI mX9_text (d + 40) [.ref 0, .int v] (SC bo) im (fun x im' => Pc im (opText s v) x im') := by
  refine SpI.of [some (.ref 0), some (.int v), none] rfl (by decide) rfl (fun Q hQ => ?_)
  refine bX9_text_0 pX9_isUse ?_
  rintro x0 im1 ⟨hx, hm⟩
  subst hm
  refine bX9_text_4 (fun c => ?_) (fun c => ?_)
  rotate_left
  · rw [hx, b2i_z] at c
    refine bX9_text_7 (pX9_fail (k := 1) (by decide) (by decide) (by decide)) ?_
    rintro _ _ ⟨rfl, rfl⟩
    refine bX9_text_13 ?_
    refine hQ _ _ ?_
    unfold opText
    rw [if_pos c]
    exact Pc.er hI rfl hR kK.rf (by decide)
  rw [hx, b2i_nz] at c
  obtain ⟨u, hu1, rfl⟩ := (in_c (x := v) (n := 1) rfl (by decide)).mp c
  have hu : u < 2 := by omega
  have hun : nnat (nI u) = u := nnat_nI (by omega)
  have hL : LwR 0 s u im := by
    match u, hu with
    | 0, _ => exact hR.l0
    | 1, _ => exact hR.l1
  obtain ⟨n, hn, e2, m2⟩ := nn2 hI
  obtain ⟨n3, hn3, e3, m3⟩ := nn3 hI
  obtain ⟨hr, k1, k2, k3⟩ := prT_ok (s := s) (u := u) e2 hn
  refine bX9_text_14 (pX5_reads hR.2.2.2.1 e2 hn rfl hu) ?_
  rintro x im1 ⟨f1, f3, f2, hx⟩
  have ea : ∀ a, a ≠ 28 → a ≠ 29 → a ≠ 30 → im1 a = im a := by
    intro a h1 h2 h3
    by_cases h : a < 28
    · funext k
      have := f1 a k (by omega)
      rw [xup_o h1] at this
      exact this
    · exact f2 a (by omega) h2 h3
  refine bX9_text_22 (pX6_clear xtape.1) ?_
  rintro _ rfl
  have bad : opText s (nI u) = rO (-10 - nI (prT s u).1) (upd s 2 0) → V mX9_text (d + 40) (0, 0) 37 [some (.ref 0), some (.int (nI u)), some (.int x)] [] (SC bo) (xup im1 12 1 0) Q := by
    intro hop
    refine bX9_text_37 pX5_fault ?_
    rintro _ _ ⟨rfl, rfl⟩
    refine bX9_text_46 ?_
    refine hQ _ _ ?_
    rw [hop]
    refine Pc.ok (by rw [xup_o (by decide), f3]) (hR.rows hI (fun i h1 h2 h3 => upd_ne h1) (fun a h1 h2 h3 h4 h5 => by rw [xup_o (by omega), ea a (by omega) (by omega) (by omega)]) ⟨?_, ?_⟩ ⟨?_, ?_⟩) (fun a i ha => by rw [xup_o (by omega), ea a (by omega) (by omega) (by omega)])
    · rw [upd_at]; exact xup_at
    · intro i hi
      rw [upd_at] at hi
      exact absurd hi (Nat.not_lt_zero i)
    · show xup im1 12 1 0 14 1 = _
      rw [xup_o (by decide), ea 14 (by decide) (by decide) (by decide), upd_ne (by decide)]
      exact hR.2.2.2.2.1.1
    · intro i hi
      rw [upd_ne (by decide), m3] at hi
      show xup im1 12 1 0 15 i = _
      rw [xup_o (by decide), ea 15 (by decide) (by decide) (by decide), upd_ne (by omega)]
      exact hR.2.2.2.2.1.2 i (by rw [m3]; exact hi)
  obtain ⟨r, her⟩ : ∃ r, prT s u = r := ⟨_, rfl⟩
  rw [her] at hr k1 k2 k3 hx f3 bad
  obtain ⟨b, o⟩ := r
  simp only at k1 k2 k3 f3
  cases o with
  | none =>
    have hx : x = 0 := hx
    have hopu : opText s (nI u) = rO (-10 - nI b) (upd s 2 0) := by
      unfold opText
      rw [if_neg (not_not_intro c), hun, her]
    refine bX9_text_33 (fun h => absurd hx h) (fun _ => ?_)
    exact bad hopu
  | some l =>
    obtain ⟨hx1, hl, hw⟩ := (show x = b2i (nI b = s 2) ∧ im1 29 1 = nI l.length ∧ im1 30 = wrC u (im 30) 0 l from hx)
    obtain ⟨q1, q2, q3⟩ := k3 l rfl
    have hopu2 : opText s (nI u) = if nI b = s 2 then rO 1 (textS s u l) else rO (-10 - nI b) (upd s 2 0) := by
      unfold opText
      rw [if_neg (not_not_intro c), hun, her]
    refine bX9_text_33 (fun h => ?_) (fun h => ?_)
    rotate_left
    · rw [hx1, b2i_z] at h
      exact bad (by rw [hopu2, if_neg h])
    rw [hx1, b2i_nz] at h
    refine bX9_text_48 (pX2_lawOf rfl hu) ?_
    rintro _ _ ⟨rfl, rfl⟩
    refine bX9_text_56 (xlaw hu).1 (pX3_give hu ((congrFun (xup_o (by decide)) 1).trans hl) (by omega)) ?_
    rintro im3 ⟨g6, g5, g3, g0, go⟩
    refine bX9_text_66 ?_
    refine hQ _ _ ?_
    rw [hopu2, if_pos h]
    have g0' : im3 (4 + 4 * u) 0 = nI u := by rw [g0, xup_o (by omega), ea _ (by omega) (by omega) (by omega)]; exact hL.1
    refine Pc.ok rfl (hR.textR hI hu (by omega) (okL_ne (q3 0)) ?_ ?_ g0' g3 g5 ?_) ?_
    · rw [go 12 (by omega) (by omega) (by omega)]; exact xup_at
    · intro a h1 h2 h3 h4 h5 h6
      rw [go a (by omega) (by omega) (by omega), xup_o h3, ea a (by omega) (by omega) (by omega)]
    · intro k hk
      rw [g6 k hk, xup_o (by decide), hw]
      have := wrC_at u (im 30) 0 l k hk
      rw [Nat.zero_add] at this
      exact this
    · intro a i ha
      rw [go a (by omega) (by omega) (by omega), xup_o (by omega), ea a (by omega) (by omega) (by omega)]

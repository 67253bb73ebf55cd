theorem pX4_beLike {d : Nat} {im : XI} {S : XS} {a b : Nat} (hA : S.1[a]? = some (.inl 4)) (hB : S.1[b]? = some (.inl 4)) (hab : a ≠ b) : SpV mX4_beLike d [.ref a, .ref b] S im (fun im' => (∀ w, w < 4 → im' a w = im b w) ∧ ∀ q, q ≠ a → im' q = im q) := by
  refine SpV.of [some (.ref a), some (.ref b)] rfl (by decide) rfl (fun Q hQ => ?_)
  refine bX4_beLike_0 hB hA ?_
  refine hQ _ ⟨fun w hw => ?_, fun q hq => by rw [xup_o hq, xup_o hq, xup_o hq, xup_o hq]⟩
  have e : ∀ (I : XI) (i j : Nat) (v : Int32), xup I a i v b j = I b j := fun I i j v => congrFun (xup_o hab.symm) j
  simp only [e]
  match w, hw with
  | 0, _ => rw [xup_ne (by decide), xup_ne (by decide), xup_ne (by decide), xup_at]
  | 1, _ => rw [xup_ne (by decide), xup_ne (by decide), xup_at]
  | 2, _ => rw [xup_ne (by decide), xup_at]
  | 3, _ => rw [xup_at]
theorem pX0_beLike {d : Nat} {im : XI} {S : XS} {a b : Nat} (hA : S.1[a]? = some (.inl 0)) (hB : S.1[b]? = some (.inl 0)) (hab : a ≠ b) : SpV mX0_beLike d [.ref a, .ref b] S im (fun im' => (∀ w, w < 3 → im' a w = im b w) ∧ ∀ q, q ≠ a → im' q = im q) := by
  refine SpV.of [some (.ref a), some (.ref b)] rfl (by decide) rfl (fun Q hQ => ?_)
  refine bX0_beLike_0 hB hA ?_
  refine hQ _ ⟨fun w hw => ?_, fun q hq => by rw [xup_o hq, xup_o hq, xup_o hq]⟩
  have e : ∀ (I : XI) (i j : Nat) (v : Int32), xup I a i v b j = I b j := fun I i j v => congrFun (xup_o hab.symm) j
  simp only [e]
  match w, hw with
  | 0, _ => rw [xup_ne (by decide), xup_ne (by decide), xup_at]
  | 1, _ => rw [xup_ne (by decide), xup_at]
  | 2, _ => rw [xup_at]
theorem pX3_beLike {d : Nat} {im : XI} {o o' u c : Nat} (ho : o = 0 ∨ o = 49) (ho' : o' = 0 ∨ o' = 49) (hne : o ≠ o') (hu : u < 2) (hf : im (5 + 4 * u + o) 1 = nI c) (hc : c ≤ 60) (hg : im (4 + 4 * u + o) 3 = 0 ∨ im (4 + 4 * u + o) 3 = 1) : SpV mX3_beLike (d + 3) [.ref (4 + 4 * u + o'), .ref (4 + 4 * u + o)] (SC true) im (fun im' => im' (5 + 4 * u + o') 1 = nI c ∧ (∀ j, j < c → im' (6 + 4 * u + o') j = im (6 + 4 * u + o) j) ∧ im' (4 + 4 * u + o') 3 = im (4 + 4 * u + o) 3 ∧ im' (4 + 4 * u + o') 0 = im (4 + 4 * u + o') 0 ∧ ∀ q, q ≠ 4 + 4 * u + o' → q ≠ 5 + 4 * u + o' → q ≠ 6 + 4 * u + o' → im' q = im q) := by
  refine SpV.of [some (.ref (4 + 4 * u + o')), some (.ref (4 + 4 * u + o))] rfl (by decide) rfl (fun Q hQ => ?_)
  obtain ⟨a0, a1, a2, a3, a4⟩ := xislL ho' hu
  obtain ⟨b0, b1, b2, b3, b4⟩ := xislL ho hu
  refine bX3_beLike_0 a0 a1 b0 b1 a2 (pX6_beLike a2 a3 a4 b2 b3 b4 hf hc hc (by omega) (by omega) (by omega)) ?_
  rintro im1 ⟨e1, e2, e3⟩
  have ek : ∀ q, q ≠ 5 + 4 * u + o' → q ≠ 6 + 4 * u + o' → im1 q = im q := by
    intro q h1 h2
    funext k
    exact e3 q k (fun h => h2 h.1) (fun h => h1 h.1)
  have eg : im1 (4 + 4 * u + o) 3 = im (4 + 4 * u + o) 3 := congrFun (ek _ (by omega) (by omega)) 3
  refine bX3_beLike_11 b0 a0 (by rw [eg]; exact hg) ?_
  rw [eg]
  refine hQ _ ⟨?_, fun j hj => ?_, xup_at, ?_, fun q h1 h2 h3 => ?_⟩
  · rw [xup_o (by omega)]; exact e1
  · rw [xup_o (by omega)]; exact e2 j hj
  · rw [xup_ne (by decide), ek _ (by omega) (by omega)]
  · rw [xup_o h1]; exact ek q h2 h3
theorem pX2_beLike {d : Nat} {im : XI} {s : Nat → Int32} {np nd o o' : Nat} (ho : o = 0 ∨ o = 49) (ho' : o' = 0 ∨ o' = 49) (hne : o ≠ o') (hR : RI o s im) (hI : Iv s np nd) (hU0 : im (4 + o') 0 = nI 0) (hU1 : im (8 + o') 0 = nI 1) : SpV mX2_beLike (d + 4) [.ref (1 + o'), .ref (1 + o)] (SC true) im (fun im' => RI o' s im' ∧ ∀ q, ¬ (1 + o' ≤ q ∧ q ≤ 27 + o') → im' q = im q) := by
  refine SpV.of [some (.ref (1 + o')), some (.ref (1 + o)), none] rfl (by decide) rfl (fun Q hQ => ?_)
  obtain ⟨a0, aA, aB, aL0, aL1, aT, aW, aGA, aGB⟩ := xisl ho'
  obtain ⟨b0, bA, bB, bL0, bL1, bT, bW, bGA, bGB⟩ := xisl ho
  obtain ⟨hcn, hpe, hdo, ⟨t1, t2⟩, ⟨w1, w2⟩, ⟨l00, l03, c0, hc0, l01, l02⟩, ⟨l10, l13, c1, hc1, l11, l12⟩⟩ := id hR
  obtain ⟨n2, hn2, e2, m2⟩ := nn2 hI
  obtain ⟨n3, hn3, e3, m3⟩ := nn3 hI
  rw [m2] at t2
  rw [m3] at w2
  have fin : ∀ im1 : XI, (∀ q, ¬ (16 + o' ≤ q ∧ q ≤ 27 + o') → im1 q = im q) → (∀ p, p < 6 → ∀ w, w < 4 → im1 (16 + p + o') w = im (16 + p + o) w) → (∀ p, p < 6 → ∀ w, w < 3 → im1 (22 + p + o') w = im (22 + p + o) w) → V mX2_beLike (d + 4) (0, 0) 58 [some (.ref (1 + o')), some (.ref (1 + o)), some (.int (nI 6))] [] (SC true) im1 Q := by
    intro im1 hk hp hd
    have s1 : ∀ q, q < 16 + o → q ≠ 16 + o' → ¬ (16 + o' ≤ q ∧ q ≤ 27 + o') → im1 q = im q := fun q _ _ h => hk q h
    refine bX2_beLike_58 a0 aL0 b0 bL0 (xislL (u := 0) ho' (by omega)).1 (pX3_beLike (u := 0) (c := c0) ho ho' hne (by omega) (by rw [hk _ (by omega)]; exact l01) hc0 (by rw [hk _ (by omega)]; exact l03 ▸ b2i_01 _)) ?_
    rintro im2 ⟨g1, g2, g3, g4, g5⟩
    have k2 : ∀ q, ¬ (16 + o' ≤ q ∧ q ≤ 27 + o') → ¬ (4 + o' ≤ q ∧ q ≤ 6 + o') → im2 q = im q := fun q h1 h2 => (g5 q (by omega) (by omega) (by omega)).trans (hk q h1)
    refine bX2_beLike_69 a0 aL1 b0 bL1 (xislL (u := 1) ho' (by omega)).1 (pX3_beLike (u := 1) (c := c1) ho ho' hne (by omega) (by rw [k2 _ (by omega) (by omega)]; exact l11) hc1 (by rw [k2 _ (by omega) (by omega)]; exact l13 ▸ b2i_01 _)) ?_
    rintro im3 ⟨i1, i2, i3, i4, i5⟩
    have k3 : ∀ q, ¬ (16 + o' ≤ q ∧ q ≤ 27 + o') → ¬ (4 + o' ≤ q ∧ q ≤ 6 + o') → ¬ (8 + o' ≤ q ∧ q ≤ 10 + o') → im3 q = im q := fun q h1 h2 h3 => (i5 q (by omega) (by omega) (by omega)).trans (k2 q h1 h2)
    obtain ⟨ra0, ra1, ra2, ra3, ra4, ra5⟩ := xislR ho'
    obtain ⟨rb0, rb1, rb2, rb3, rb4, rb5⟩ := xislR ho
    refine bX2_beLike_80 a0 aT b0 bT ra0 (pX6_beLike (m := n2) ra0 ra1 ra2 rb0 rb1 rb2 (by rw [k3 _ (by omega) (by omega) (by omega)]; exact t1.trans e2) hn2 hn2 (by omega) (by omega) (by omega)) ?_
    rintro im4 ⟨u1, u2, u3⟩
    have k4' : ∀ q, q ≠ 12 + o' → q ≠ 13 + o' → im4 q = im3 q := by
      intro q h1 h2
      funext k
      exact u3 q k (fun h => h2 h.1) (fun h => h1 h.1)
    refine bX2_beLike_91 a0 aW b0 bW ra3 (pX6_beLike (m := n3) ra3 ra4 ra5 rb3 rb4 rb5 (by rw [k4' _ (by omega) (by omega), k3 _ (by omega) (by omega) (by omega)]; exact w1.trans e3) hn3 hn3 (by omega) (by omega) (by omega)) ?_
    rintro im5 ⟨v1, v2, v3⟩
    have k5' : ∀ q, q ≠ 14 + o' → q ≠ 15 + o' → im5 q = im4 q := by
      intro q h1 h2
      funext k
      exact v3 q k (fun h => h2 h.1) (fun h => h1 h.1)
    have k5 : ∀ q, ¬ (16 + o' ≤ q ∧ q ≤ 27 + o') → ¬ (4 + o' ≤ q ∧ q ≤ 6 + o') → ¬ (8 + o' ≤ q ∧ q ≤ 10 + o') → ¬ (12 + o' ≤ q ∧ q ≤ 15 + o') → im5 q = im q := fun q h1 h2 h3 h4 => (k5' q (by omega) (by omega)).trans ((k4' q (by omega) (by omega)).trans (k3 q h1 h2 h3))
    refine bX2_beLike_102 b0 a0 ?_
    have es : ∀ (I : XI) (i j : Nat) (v : Int32), xup I (1 + o') i v (1 + o) j = I (1 + o) j := fun I i j v => congrFun (xup_o (by omega)) j
    simp only [es]
    rw [k5 (1 + o) (by omega) (by omega) (by omega) (by omega)]
    obtain ⟨I, hIe⟩ : ∃ I, I = xup (xup (xup (xup im5 (1 + o') 6 (im (1 + o) 6)) (1 + o') 7 (im (1 + o) 7)) (1 + o') 8 (im (1 + o) 8)) (1 + o') 9 (im (1 + o) 9) := ⟨_, rfl⟩
    rw [← hIe]
    have kI : ∀ q, q ≠ 1 + o' → I q = im5 q := by
      intro q hq
      rw [hIe, xup_o hq, xup_o hq, xup_o hq, xup_o hq]
    refine hQ _ ⟨⟨⟨?_, ?_, ?_, ?_⟩, ?_, ?_, ⟨?_, ?_⟩, ⟨?_, ?_⟩, ?_, ?_⟩, fun q hq => ?_⟩
    · rw [hIe, xup_ne (by decide), xup_ne (by decide), xup_ne (by decide), xup_at]; exact hcn.1
    · rw [hIe, xup_ne (by decide), xup_ne (by decide), xup_at]; exact hcn.2.1
    · rw [hIe, xup_ne (by decide), xup_at]; exact hcn.2.2.1
    · rw [hIe, xup_at]; exact hcn.2.2.2
    · intro p hp'
      have hp6 : p < 6 := by rw [nnp hI] at hp'; have := hI.1.1; omega
      obtain ⟨q0, q1, q2, q3⟩ := hpe p hp'
      have ek : ∀ w, w < 4 → I (16 + p + o') w = im (16 + p + o) w := by
        intro w hw
        rw [kI _ (by omega), k5' _ (by omega) (by omega), k4' _ (by omega) (by omega), i5 _ (by omega) (by omega) (by omega), g5 _ (by omega) (by omega) (by omega)]
        exact hp p hp6 w hw
      exact ⟨(ek 0 (by omega)).trans q0, (ek 1 (by omega)).trans q1, (ek 2 (by omega)).trans q2, (ek 3 (by omega)).trans q3⟩
    · intro p hp'
      have hp6 : p < 6 := by rw [nnd hI] at hp'; have := hI.2.1.1; omega
      obtain ⟨q0, q1, q2⟩ := hdo p hp'
      have ek : ∀ w, w < 3 → I (22 + p + o') w = im (22 + p + o) w := by
        intro w hw
        rw [kI _ (by omega), k5' _ (by omega) (by omega), k4' _ (by omega) (by omega), i5 _ (by omega) (by omega) (by omega), g5 _ (by omega) (by omega) (by omega)]
        exact hd p hp6 w hw
      exact ⟨(ek 0 (by omega)).trans q0, (ek 1 (by omega)).trans q1, (ek 2 (by omega)).trans q2⟩
    · rw [kI _ (by omega), k5' _ (by omega) (by omega), u1, e2]
    · intro j hj
      rw [m2] at hj
      rw [kI _ (by omega), k5' _ (by omega) (by omega), u2 j hj, k3 _ (by omega) (by omega) (by omega)]
      exact t2 j hj
    · rw [kI _ (by omega), v1, e3]
    · intro j hj
      rw [m3] at hj
      rw [kI _ (by omega), v2 j hj, k4' _ (by omega) (by omega), k3 _ (by omega) (by omega) (by omega)]
      exact w2 j hj
    · refine ⟨?_, ?_, c0, hc0, ?_, fun hg => ⟨(l02 hg).1, fun j hj => ?_⟩⟩
      · rw [kI _ (by omega), k5' _ (by omega) (by omega), k4' _ (by omega) (by omega), i5 _ (by omega) (by omega) (by omega), g4, hk _ (by omega)]
        exact hU0
      · rw [kI _ (by omega), k5' _ (by omega) (by omega), k4' _ (by omega) (by omega), i5 _ (by omega) (by omega) (by omega), g3, hk _ (by omega)]
        exact l03
      · rw [kI _ (by omega), k5' _ (by omega) (by omega), k4' _ (by omega) (by omega), i5 _ (by omega) (by omega) (by omega)]
        exact g1
      · rw [kI _ (by omega), k5' _ (by omega) (by omega), k4' _ (by omega) (by omega), i5 _ (by omega) (by omega) (by omega), g2 j hj, hk _ (by omega)]
        exact (l02 hg).2 j hj
    · refine ⟨?_, ?_, c1, hc1, ?_, fun hg => ⟨(l12 hg).1, fun j hj => ?_⟩⟩
      · rw [kI _ (by omega), k5' _ (by omega) (by omega), k4' _ (by omega) (by omega), i4, k2 _ (by omega) (by omega)]
        exact hU1
      · rw [kI _ (by omega), k5' _ (by omega) (by omega), k4' _ (by omega) (by omega), i3, k2 _ (by omega) (by omega)]
        exact l13
      · rw [kI _ (by omega), k5' _ (by omega) (by omega), k4' _ (by omega) (by omega)]
        exact i1
      · rw [kI _ (by omega), k5' _ (by omega) (by omega), k4' _ (by omega) (by omega), i2 j hj, k2 _ (by omega) (by omega)]
        exact (l12 hg).2 j hj
    · rw [kI q (by omega)]
      exact k5 q (by omega) (by omega) (by omega) (by omega)
  have doi : ∀ (g k : Nat) (im1 : XI), k + g = 6 → (∀ q, ¬ (16 + o' ≤ q ∧ q ≤ 27 + o') → im1 q = im q) → (∀ p, p < 6 → ∀ w, w < 4 → im1 (16 + p + o') w = im (16 + p + o) w) → (∀ p, p < k → ∀ w, w < 3 → im1 (22 + p + o') w = im (22 + p + o) w) → V mX2_beLike (d + 4) (0, 0) 31 [some (.ref (1 + o')), some (.ref (1 + o)), some (.int (nI k))] [] (SC true) im1 Q := by
    intro g
    induction g with
    | zero =>
      intro k im1 hk hq hp hd
      obtain rfl : k = 6 := by omega
      exact bX2_beLike_31 (fun _ => fin im1 hq hp hd) (fun c => absurd (by decide) c)
    | succ g ih =>
      intro k im1 hk hq hp hd
      obtain ⟨_, x1, _, x3⟩ := xislP (i := k) ho' (by omega)
      obtain ⟨_, y1, _, y3⟩ := xislP (i := k) ho (by omega)
      refine bX2_beLike_31 (fun c => absurd (ge_i (a := 6) (by omega) (by omega) c) (by omega)) (fun _ => ?_)
      refine bX2_beLike_37 a0 aB aGB rfl (by omega) x1 b0 bB bGB (by omega) y1 x3 (pX0_beLike x3 y3 (by omega)) ?_
      rintro im2 ⟨z1, z2⟩
      refine bX2_beLike_52 ?_
      rw [nI_1]
      refine ih (k + 1) im2 (by omega) (fun q h => (z2 q (by omega)).trans (hq q h)) (fun p hp' w hw => by rw [z2 _ (by omega)]; exact hp p hp' w hw) (fun p hp' w hw => ?_)
      by_cases e : p = k
      · subst e
        rw [z1 w hw, hq _ (by omega)]
      · rw [z2 _ (by omega)]
        exact hd p (by omega) w hw
  have per : ∀ (g k : Nat) (im1 : XI), k + g = 6 → (∀ q, ¬ (16 + o' ≤ q ∧ q ≤ 27 + o') → im1 q = im q) → (∀ p, p < k → ∀ w, w < 4 → im1 (16 + p + o') w = im (16 + p + o) w) → V mX2_beLike (d + 4) (0, 0) 2 [some (.ref (1 + o')), some (.ref (1 + o)), some (.int (nI k))] [] (SC true) im1 Q := by
    intro g
    induction g with
    | zero =>
      intro k im1 hk hq hp
      obtain rfl : k = 6 := by omega
      refine bX2_beLike_2 (fun _ => ?_) (fun c => absurd (by decide) c)
      refine bX2_beLike_29 ?_
      exact doi 6 0 im1 (by omega) hq hp (fun p hp' => absurd hp' (Nat.not_lt_zero p))
    | succ g ih =>
      intro k im1 hk hq hp
      obtain ⟨x0, _, x2, _⟩ := xislP (i := k) ho' (by omega)
      obtain ⟨y0, _, y2, _⟩ := xislP (i := k) ho (by omega)
      refine bX2_beLike_2 (fun c => absurd (ge_i (a := 6) (by omega) (by omega) c) (by omega)) (fun _ => ?_)
      refine bX2_beLike_8 a0 aA aGA rfl (by omega) x0 b0 bA bGA (by omega) y0 x2 (pX4_beLike x2 y2 (by omega)) ?_
      rintro im2 ⟨z1, z2⟩
      refine bX2_beLike_23 ?_
      rw [nI_1]
      refine ih (k + 1) im2 (by omega) (fun q h => (z2 q (by omega)).trans (hq q h)) (fun p hp' w hw => ?_)
      by_cases e : p = k
      · subst e
        rw [z1 w hw, hq _ (by omega)]
      · rw [z2 _ (by omega)]
        exact hp p (by omega) w hw
  refine bX2_beLike_0 ?_
  exact per 6 0 im rfl (fun q _ => rfl) (fun p hp' => absurd hp' (Nat.not_lt_zero p))

theorem sgn_tok {c : Int32} (h : c ∈ signs) : ¬ -c = -33 ∧ ¬ -3 ≤ -c ∧ - -c = c := by
  simp only [signs, List.mem_cons, List.not_mem_nil, or_false] at h
  rcases h with rfl | rfl | rfl | rfl | rfl | rfl | rfl | rfl | rfl | rfl <;> decide
theorem nam_tok (u : Nat) (v : Int32) : ¬ tok u 1 v = -33 ∧ -3 ≤ tok u 1 v ∧ tok u 1 v < 0 := by
  rw [tok_1 rfl]
  split
  · decide
  · split <;> decide
theorem nam_nm (u : Nat) (a b c v : Int32) : (if tok u 1 v = -1 then a else if tok u 1 v = -2 then b else c) = nm0 u a b c v := by
  rw [tok_1 rfl]
  unfold nm0
  by_cases h : v = nameC u 0
  · rw [if_pos h, if_pos h, if_pos rfl]
  · rw [if_neg h, if_neg h]
    by_cases h2 : v = nameC u 1
    · rw [if_pos h2, if_pos h2, if_neg (by decide), if_pos rfl]
    · rw [if_neg h2, if_neg h2, if_neg (by decide), if_neg (by decide)]
theorem num_tok {n : Nat} (hn : n < 10000) : ¬ nI n = -33 ∧ -3 ≤ nI n ∧ ¬ nI n < 0 := by
  have h := nI_toInt (n := n) (by omega)
  refine ⟨fun e => ?_, ?_, nI_pos (by omega)⟩
  · rw [i_eq, h, show (-33 : Int32).toInt = -33 from rfl] at e; omega
  · rw [i_le, h, show (-3 : Int32).toInt = -3 from rfl]; omega
theorem pX3_worked {d : Nat} {im : XI} {bo : Bool} {s : Nat → Int32} {u : Nat} {a b c : Int32} (hu : u < 2) (hL : LwR 0 s u im) (ht : textOk s u) (hg : 0 < s (50 + 125 * u)) : SpI mX3_worked (d + 1) [.ref (4 + 4 * u), .int a, .int b, .int c] (SC bo) im (fun x im' => x = work0 s u a b c ∧ kC im im') := by
  refine SpI.of [some (.ref (4 + 4 * u)), some (.int a), some (.int b), some (.int c), none, none, none] rfl (by decide) rfl (fun Q hQ => ?_)
  obtain ⟨x0, x1, x2, x3, x4, x5, x6⟩ := xlaw (bo := bo) hu
  obtain ⟨_, _, cnt, hcnt, hcf, hcc⟩ := hL
  obtain ⟨hce, hct⟩ := hcc hg
  obtain ⟨cnt2, hcnt2, hce2, hst, hone⟩ := ht
  obtain rfl : cnt = cnt2 := (nI_eq (by omega) (by omega)).mp (hce.symm.trans hce2)
  obtain ⟨B, hB⟩ : ∃ B, B = 50 + 125 * u := ⟨_, rfl⟩
  rw [← hB] at hg hce hst hone hct
  have hc0 : 0 < cnt := by rw [hce] at hg; exact (nI_lt0 (by omega)).mp hg
  obtain ⟨K, hK⟩ : ∃ K, K = 7 + 4 * u := ⟨_, rfl⟩
  rw [← hK] at x2 x6
  have hK5 : 5 + 4 * u ≠ K := by omega
  have hK6 : 6 + 4 * u ≠ K := by omega
  have key : ∀ (n k : Nat) (im1 : XI), cnt < k + n → k ≤ cnt → (∀ q, q ≠ K → im1 q = im q) → (∀ j, j < wl s B k → im1 K j = evN s B (nm0 u a b c) k j) → V mX3_worked (d + 1) (0, 0) 6 [some (.ref (4 + 4 * u)), some (.int a), some (.int b), some (.int c), some (.int (nI (wl s B k))), some (.int (nI k)), none] [] (SC bo) im1 Q := by
    intro n
    induction n with
    | zero => intro k im1 hn1 hn2; omega
    | succ n ih =>
      intro k im1 hn1 hn2 hq hp
      have hwk := wl_le s B k
      have hf1 : im1 (5 + 4 * u) 1 = nI cnt := by rw [hq _ hK5]; exact hcf
      refine bX3_worked_6 x0 x1 x3 (pX6_size x3) ?_
      rintro _ _ ⟨rfl, rfl⟩
      rw [hf1]
      refine bX3_worked_15 (fun c1 => ?_) (fun c1 => ?_)
      · have hk : k = cnt := by have := ge_i (by omega) (by omega) c1; omega
        refine bX3_worked_165 (fun c2 => ?_) (fun _ => ?_)
        · rw [hk, hone hc0] at c2
          exact absurd c2 (by decide)
        · refine bX3_worked_170 x0 x2 x6 (by decide) ?_
          refine bX3_worked_180 ?_
          refine hQ _ _ ⟨?_, fun q j hj => by rw [hq q (fun h => hj (by omega))]⟩
          rw [hp 0 (by rw [hk, hone hc0]; omega), hk]
          unfold work0
          rw [← hB, hce, show nnat (nI cnt) = cnt from nI_clamp (by omega)]
      · have hk : k < cnt := lt_i (by omega) (by omega) c1
        refine bX3_worked_18 x0 x1 x3 (pX6_at x3 x4 x5 hf1 (by omega) rfl hk) ?_
        rintro _ _ ⟨rfl, rfl⟩
        rw [hq _ hK6, show im (6 + 4 * u) k = tok u (s (B + 1 + 2 * k)) (s (B + 2 + 2 * k)) from hct k hk]
        have hwl : wl s B (k + 1) = if s (B + 1 + 2 * k) = 0 ∨ s (B + 1 + 2 * k) = 1 then wl s B k + 1 else if s (B + 1 + 2 * k) = 2 then wl s B k else wl s B k - 1 := rfl
        have hev : evN s B (nm0 u a b c) (k + 1) = ev1 (s (B + 1 + 2 * k)) (s (B + 2 + 2 * k)) (nm0 u a b c) (wl s B k) (evN s B (nm0 u a b c) k) := rfl
        have push : ∀ (v t : Int32), wl s B (k + 1) = wl s B k + 1 → evN s B (nm0 u a b c) (k + 1) = upd (evN s B (nm0 u a b c) k) (wl s B k) v → V mX3_worked (d + 1) (0, 0) 155 [some (.ref (4 + 4 * u)), some (.int a), some (.int b), some (.int c), some (.int (nI (wl s B k))), some (.int (nI k)), some (.int t)] [.int v, .int (nI (wl s B k)), .ref K] (SC bo) im1 Q := by
          intro v t hw1 hv1
          refine bX3_worked_155 (i2 := wl s B k) x6 rfl (by omega) ?_
          refine bX3_worked_159 ?_
          rw [show nI (wl s B k) + 1 = nI (wl s B (k + 1)) by rw [hw1, nI_1], nI_1 k]
          refine ih (k + 1) _ (by omega) (by omega) (fun q h7 => by rw [xup_o h7]; exact hq q h7) (fun j hj => ?_)
          rw [hv1, xup_s]
          exact upd_agree fun hne => hp j (by omega)
        have c121 : ¬ nI 60 ≤ nI (wl s B k) := nI_ge (by omega) (by omega)
        rcases hst k hk with ⟨hw, nn, hn3, hv⟩ | ⟨hw, j, hj, hv⟩ | ⟨hw, hd⟩ | ⟨hw, hd, hv⟩
        · rw [tok_0 hw, hv]
          obtain ⟨t1, t2, t3⟩ := num_tok hn3
          refine bX3_worked_27 (fun _ => ?_) (fun c2 => absurd c2 t1)
          refine bX3_worked_71 (fun _ => ?_) (fun c2 => absurd t2 c2)
          refine bX3_worked_121 x0 x2 x6 (fun c2 => absurd c2 c121) (fun _ => ?_)
          refine bX3_worked_131 x0 x2 (fun c2 => absurd c2 t3) (fun _ => ?_)
          refine bX3_worked_142 ?_
          exact push _ _ (by rw [hwl, if_pos (Or.inl hw)]) (by rw [hev]; unfold ev1; rw [if_pos hw, hv])
        · have h0 : ¬ s (B + 1 + 2 * k) = 0 := by rw [hw]; decide
          rw [hw]
          obtain ⟨t1, t2, t3⟩ := nam_tok u (s (B + 2 + 2 * k))
          refine bX3_worked_27 (fun _ => ?_) (fun c2 => absurd c2 t1)
          refine bX3_worked_71 (fun _ => ?_) (fun c2 => absurd t2 c2)
          refine bX3_worked_121 x0 x2 x6 (fun c2 => absurd c2 c121) (fun _ => ?_)
          refine bX3_worked_131 x0 x2 (fun _ => ?_) (fun c2 => absurd t3 c2)
          refine bX3_worked_147 pX3_named ?_
          rintro _ _ ⟨rfl, rfl⟩
          rw [nam_nm]
          exact push _ _ (by rw [hwl, if_pos (Or.inr hw)]) (by rw [hev]; unfold ev1; rw [if_neg h0, if_pos hw])
        · have h0 : ¬ s (B + 1 + 2 * k) = 0 := by rw [hw]; decide
          have h1 : ¬ s (B + 1 + 2 * k) = 1 := by rw [hw]; decide
          rw [tok_2 hw]
          have hw1 : wl s B (k + 1) = wl s B k := by rw [hwl, if_neg (fun h => h.elim h0 h1), if_pos hw]
          have hv1 : evN s B (nm0 u a b c) (k + 1) = upd (evN s B (nm0 u a b c) k) (wl s B k - 1) (if im1 K (wl s B k - 1) = 0 then 1 else 0) := by rw [hev]; unfold ev1; rw [if_neg h0, if_neg h1, if_pos hw, ← hp (wl s B k - 1) (by omega)]
          have hs1 : nI (wl s B k) - 1 = nI (wl s B k - 1) := pk_sub hd
          have fin : ∀ v : Int32, (if im1 K (wl s B k - 1) = 0 then 1 else 0) = v → V mX3_worked (d + 1) (0, 0) 67 [some (.ref (4 + 4 * u)), some (.int a), some (.int b), some (.int c), some (.int (nI (wl s B k))), some (.int (nI k)), some (.int (-33))] [.int v, .int (nI (wl s B k) - 1), .ref K] (SC bo) im1 Q := by
            intro v hv2
            refine bX3_worked_67 (i2 := wl s B k - 1) x6 hs1 (by omega) ?_
            refine bX3_worked_159 ?_
            rw [nI_1 k]
            have := ih (k + 1) (xup im1 K (wl s B k - 1) v) (by omega) (by omega) (fun q h7 => by rw [xup_o h7]; exact hq q h7) (fun j hj => by
              rw [hv1, hv2, xup_s]
              exact upd_agree fun hne => hp j (by omega))
            rw [hw1] at this
            exact this
          refine bX3_worked_27 (fun c2 => absurd rfl c2) (fun _ => ?_)
          refine bX3_worked_36 (fun c2 => absurd ((nI_ltI (a := wl s B k) (b := 1) (by omega) (by omega)).mp c2) (by omega)) (fun _ => ?_)
          refine bX3_worked_42 (i3 := wl s B k - 1) x0 x2 x6 hs1 (by omega) (fun c5 => ?_) (fun c5 => ?_)
          · refine bX3_worked_66 ?_
            exact fin _ (if_neg c5)
          · refine bX3_worked_62 ?_
            exact fin _ (if_pos c5)
        · have h0 : ¬ s (B + 1 + 2 * k) = 0 := by rw [hw]; decide
          have h1 : ¬ s (B + 1 + 2 * k) = 1 := by rw [hw]; decide
          have h2 : ¬ s (B + 1 + 2 * k) = 2 := by rw [hw]; decide
          obtain ⟨m, hm⟩ : ∃ m, wl s B k = m + 2 := ⟨wl s B k - 2, by omega⟩
          have hw1 : wl s B (k + 1) = m + 1 := by rw [hwl, if_neg (fun h => h.elim h0 h1), if_neg h2, hm]; rfl
          rw [tok_3 hw]
          obtain ⟨t1, t2, t3⟩ := sgn_tok hv
          have a1 : nI (wl s B k) + -1 = nI (m + 1) := by rw [hm]; exact pk_m1 (m + 1)
          have a2 : nI (wl s B k) + -1 - 1 = nI m := by rw [a1]; exact nI_pred m
          refine bX3_worked_27 (fun _ => ?_) (fun c2 => absurd c2 t1)
          refine bX3_worked_71 (fun c2 => absurd c2 t2) (fun _ => ?_)
          refine bX3_worked_78 (fun c2 => absurd ((nI_ltI (a := wl s B k) (b := 2) (by omega) (by omega)).mp c2) (by omega)) (fun _ => ?_)
          refine bX3_worked_84 (i3 := m) (i4 := m + 1) x0 x2 x6 a2 (by omega) a1 (by omega) (by rw [t3]; exact pX3_joined hv) ?_
          rintro _ _ ⟨rfl, rfl⟩
          refine bX3_worked_117 (i2 := m) x6 a2 (by omega) ?_
          refine bX3_worked_159 ?_
          rw [nI_1 k, a1, show nI (m + 1) = nI (wl s B (k + 1)) by rw [hw1]]
          refine ih (k + 1) _ (by omega) (by omega) (fun q h7 => by rw [xup_o h7]; exact hq q h7) (fun j hj => ?_)
          rw [hev, xup_s]
          unfold ev1
          rw [if_neg h0, if_neg h1, if_neg h2, show wl s B k - 2 = m by omega, show wl s B k - 1 = m + 1 by omega, ← hp m (by omega), ← hp (m + 1) (by omega)]
          exact upd_agree fun hne => hp j (by omega)
  refine bX3_worked_0 ?_
  exact key (cnt + 1) 0 im (by omega) (by omega) (fun _ _ => rfl) (fun j hj => absurd hj (Nat.not_lt_zero j))
theorem pX3_gives_0 {d : Nat} {im : XI} {bo : Bool} {s : Nat → Int32} {a b c : Int32} (hL : LwR 0 s 0 im) (ht : textOk s 0) : SpI mX3_gives (d + 2) [.ref 4, .int a, .int b, .int c] (SC bo) im (fun x im' => x = told0 s a b c ∧ kC im im') := by
  refine SpI.of [some (.ref 4), some (.int a), some (.int b), some (.int c)] rfl (by decide) rfl (fun Q hQ => ?_)
  obtain ⟨x0, x1, x2, x3, x4, x5, x6⟩ := xlaw (bo := bo) (u := 0) (by omega)
  obtain ⟨hu0, hgv, _⟩ := id hL
  have hu0 : im 4 0 = nI 0 := hu0
  have hgv : im 4 3 = b2i (0 < s 50) := hgv
  have fin : ∀ (v : Int32) (im1 : XI), kC im im1 → held0 v 0 1 = told0 s a b c → V mX3_gives (d + 2) (0, 0) 25 [some (.ref 4), some (.int a), some (.int b), some (.int c)] [.int v] (SC bo) im1 Q := by
    intro v im1 hk he
    refine bX3_gives_25 (qX3_held (by decide)) ?_
    rintro _ _ ⟨rfl, rfl⟩
    refine bX3_gives_29 ?_
    exact hQ _ _ ⟨he, hk⟩
  refine bX3_gives_0 x0 (fun h => absurd hu0 h) (fun _ => ?_)
  refine bX3_gives_7 x0 (fun h => ?_) (fun h => ?_)
  · rw [hgv, b2i_z] at h
    refine bX3_gives_24 ?_
    exact fin _ _ kC.rf (by unfold told0; rw [if_neg h])
  · rw [hgv, b2i_nz] at h
    refine bX3_gives_14 x0 (pX3_worked (u := 0) (by omega) hL ht h) ?_
    rintro _ im1 ⟨rfl, hk⟩
    refine bX3_gives_21 ?_
    exact fin _ _ hk (by unfold told0; rw [if_pos h])
theorem pX3_gives_1 {d : Nat} {im : XI} {bo : Bool} {s : Nat → Int32} {a b c : Int32} (hL : LwR 0 s 1 im) (ht : textOk s 1) : SpI mX3_gives (d + 2) [.ref 8, .int a, .int b, .int c] (SC bo) im (fun x im' => x = on0 s a b c ∧ kC im im') := by
  refine SpI.of [some (.ref 8), some (.int a), some (.int b), some (.int c)] rfl (by decide) rfl (fun Q hQ => ?_)
  obtain ⟨x0, x1, x2, x3, x4, x5, x6⟩ := xlaw (bo := bo) (u := 1) (by omega)
  obtain ⟨hu0, hgv, _⟩ := id hL
  have hu0 : im 8 0 = nI 1 := hu0
  have hgv : im 8 3 = b2i (0 < s 175) := hgv
  have fin : ∀ (v : Int32) (im1 : XI), kC im im1 → held0 v 0 9 = on0 s a b c → V mX3_gives (d + 2) (0, 0) 48 [some (.ref 8), some (.int a), some (.int b), some (.int c)] [.int v] (SC bo) im1 Q := by
    intro v im1 hk he
    refine bX3_gives_48 (qX3_held (by decide)) ?_
    rintro _ _ ⟨rfl, rfl⟩
    refine bX3_gives_53 ?_
    exact hQ _ _ ⟨he, hk⟩
  refine bX3_gives_0 x0 (fun _ => ?_) (fun h => by rw [hu0] at h; exact absurd h (by decide))
  refine bX3_gives_30 x0 (fun h => ?_) (fun h => ?_)
  · rw [hgv, b2i_z] at h
    refine bX3_gives_47 ?_
    exact fin _ _ kC.rf (by unfold on0; rw [if_neg h])
  · rw [hgv, b2i_nz] at h
    refine bX3_gives_37 x0 (pX3_worked (u := 1) (by omega) hL ht h) ?_
    rintro _ im1 ⟨rfl, hk⟩
    refine bX3_gives_44 ?_
    exact fin _ _ hk (by unfold on0; rw [if_pos h])

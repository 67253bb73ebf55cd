theorem pX10_hasText {d : Nat} {im : XI} {s : Nat → Int32} {x0 : Int32} {u : Nat} (hs : im 1 = s) (hx : x0 = nI u) (hu : u < 2) : SpI mX10_hasText d [.ref 0, .int x0] SM im (fun x im' => x = b2i (0 < s (50 + 125 * u)) ∧ im = im') := by
  refine SpI.of [some (.ref 0), some (.int x0)] rfl (by decide) rfl (fun Q hQ => ?_)
  subst hs
  refine bX10_hasText_0 (i1 := 50 + 125 * u) (by subst hx; exact ix3 50 125 u) (by omega) (fun c1 => ?_) (fun c1 => ?_)
  · skip
    refine bX10_hasText_19   ?_
    refine bX10_hasText_20  (by first | exact b2i_01 _ | assumption | decide) ?_
    exact hQ _ _ ⟨by clear hQ; simp only [b2i]; split <;> first | rfl | (exfalso; simp only [i_le, i_lt] at *; omega), rfl⟩
  · skip
    refine bX10_hasText_15   ?_
    refine bX10_hasText_20  (by first | exact b2i_01 _ | assumption | decide) ?_
    exact hQ _ _ ⟨by clear hQ; simp only [b2i]; split <;> first | rfl | (exfalso; simp only [i_le, i_lt] at *; omega), rfl⟩
theorem pX10_worked {d : Nat} {im : XI} {s : Nat → Int32} {x0 a b c : Int32} {u : Nat} (hs : im 1 = s) (hx : x0 = nI u) (hu : u < 2) (ht : textOk s u) (hc : 0 < s (50 + 125 * u)) (hn : ∀ j, j < 3 → im 6 (nnat (nameC u j)) = nm0 u a b c (nameC u j)) : SpI mX10_worked (d + 1) [.ref 0, .int x0] SM im (fun x im' => x = work0 s u a b c ∧ im' 1 = s ∧ mk im im') := by
  refine SpI.of [some (.ref 0), some (.int x0), none, none, none, none, none] rfl (by decide) rfl (fun Q hQ => ?_)
  subst hx
  refine bX10_worked_0 ?_
  obtain ⟨cnt, hcnt, hce, hst, hone⟩ := ht
  obtain ⟨B, hB⟩ : ∃ B, B = 50 + 125 * u := ⟨_, rfl⟩
  rw [← hB] at hc hce hst hone
  have hBle : B ≤ 175 := by omega
  have hc0 : 0 < cnt := by rw [hce] at hc; exact (nI_lt0 (by omega)).mp hc
  have key : ∀ (n k : Nat) (im1 : XI), cnt < k + n → k ≤ cnt → (∀ q, q ≠ 7 → im1 q = im q) → (∀ j, j < wl s B k → im1 7 j = evN s B (nm0 u a b c) k j) → V mX10_worked (d + 1) (0, 0) 13 [some (.ref 0), some (.int (nI u)), some (.int (nI B)), some (.int (nI (wl s B k))), some (.int (nI k)), none, none] [] SM im1 Q := by
    intro n
    induction n with
    | zero => intro k im1 hn1 hn2; omega
    | succ n ih =>
      intro k im1 hn1 hn2 hq hp
      have e1 : im1 1 = s := (hq 1 (by decide)).trans hs
      have hwk := wl_le s B k
      refine bX10_worked_13 (i1 := B) rfl (by omega) (fun c1 => ?_) (fun c1 => ?_)
      · rw [e1, hce] at c1
        have hk : k = cnt := by have := ge_i (by omega) (by omega) c1; omega
        refine bX10_worked_163 ?_
        refine hQ _ _ ⟨?_, e1, fun q j hj => by rw [hq q (fun h => hj (by rw [h]; exact mg7 _))]⟩
        rw [hp 0 (by rw [hk, hone hc0]; omega), hk]
        unfold work0
        rw [← hB, hce, show nnat (nI cnt) = cnt from nI_clamp (by omega)]
      · rw [e1, hce] at c1
        have hk : k < cnt := lt_i (by omega) (by omega) c1
        have g0 : nI B + 1 + 2 * nI k = nI (B + 1 + 2 * k) := by rw [nI_1]; exact ix3 (B + 1) 2 k
        have g2 : nI B + 2 + 2 * nI k = nI (B + 2 + 2 * k) := by rw [show nI B + 2 = nI (B + 2) from nI_add B 2]; exact ix3 (B + 2) 2 k
        have hwl : wl s B (k + 1) = if s (B + 1 + 2 * k) = 0 ∨ s (B + 1 + 2 * k) = 1 then wl s B k + 1 else if s (B + 1 + 2 * k) = 2 then wl s B k else wl s B k - 1 := rfl
        have hev : evN s B (nm0 u a b c) (k + 1) = ev1 (s (B + 1 + 2 * k)) (s (B + 2 + 2 * k)) (nm0 u a b c) (wl s B k) (evN s B (nm0 u a b c) k) := rfl
        have push : ∀ v : Int32, wl s B (k + 1) = wl s B k + 1 → evN s B (nm0 u a b c) (k + 1) = upd (evN s B (nm0 u a b c) k) (wl s B k) v → V mX10_worked (d + 1) (0, 0) 87 [some (.ref 0), some (.int (nI u)), some (.int (nI B)), some (.int (nI (wl s B k))), some (.int (nI k)), some (.int (s (B + 1 + 2 * k))), some (.int (s (B + 2 + 2 * k)))] [.int v, .int (nI (wl s B k)), .ref 7] SM im1 Q := by
          intro v hw1 hv1
          refine bX10_worked_87 (i2 := wl s B k) ⟨by rfl, by rfl⟩ rfl (by omega) ?_
          refine bX10_worked_157 ?_
          rw [show nI (wl s B k) + 1 = nI (wl s B (k + 1)) by rw [hw1, nI_1], nI_1 k]
          refine ih (k + 1) _ (by omega) (by omega) (fun q h7 => by rw [xup_o h7]; exact hq q h7) (fun j hj => ?_)
          rw [hv1, xup_s]
          exact upd_agree fun hne => hp j (by omega)
        rcases hst k hk with ⟨hw, nn, hn3, hv⟩ | ⟨hw, j, hj, hv⟩ | ⟨hw, hd⟩ | ⟨hw, hd, hv⟩
        · refine bX10_worked_24 g0 (by omega) g2 (by omega) (fun c2 => ?_) (fun c2 => absurd hw (by rw [← e1]; exact c2))
          rw [e1]
          refine bX10_worked_65 (fun c3 => absurd hw c3) (fun c3 => ?_)
          refine bX10_worked_75 ?_
          exact push _ (by rw [hwl, if_pos (Or.inl hw)]) (by rw [hev]; unfold ev1; rw [if_pos hw])
        · have h0 : ¬ s (B + 1 + 2 * k) = 0 := by rw [hw]; decide
          refine bX10_worked_24 g0 (by omega) g2 (by omega) (fun c2 => absurd (e1 ▸ c2) h0) (fun c2 => ?_)
          rw [e1]
          refine bX10_worked_59 (fun c3 => absurd hw c3) (fun c3 => ?_)
          refine bX10_worked_65 (fun c4 => ?_) (fun c4 => absurd c4 h0)
          obtain ⟨hx1, hx2⟩ := nameC_lt u j
          refine bX10_worked_80 (i1 := nnat (nameC u j)) (hv.trans hx1) hx2 ?_
          rw [hq 6 (by decide), hn j hj]
          exact push _ (by rw [hwl, if_pos (Or.inr hw)]) (by rw [hev]; unfold ev1; rw [if_neg h0, if_pos hw, hv])
        · have h0 : ¬ s (B + 1 + 2 * k) = 0 := by rw [hw]; decide
          have h1 : ¬ s (B + 1 + 2 * k) = 1 := by rw [hw]; decide
          have hw1 : wl s B (k + 1) = wl s B k := by rw [hwl, if_neg (fun h => h.elim h0 h1), if_pos hw]
          have hv1 : evN s B (nm0 u a b c) (k + 1) = upd (evN s B (nm0 u a b c) k) (wl s B k - 1) (if im1 7 (wl s B k - 1) = 0 then 1 else 0) := by rw [hev]; unfold ev1; rw [if_neg h0, if_neg h1, if_pos hw, ← hp (wl s B k - 1) (by omega)]
          have hs1 : nI (wl s B k) - 1 = nI (wl s B k - 1) := pk_sub hd
          have fin : ∀ v : Int32, (if im1 7 (wl s B k - 1) = 0 then 1 else 0) = v → V mX10_worked (d + 1) (0, 0) 123 [some (.ref 0), some (.int (nI u)), some (.int (nI B)), some (.int (nI (wl s B k))), some (.int (nI k)), some (.int (s (B + 1 + 2 * k))), some (.int (s (B + 2 + 2 * k)))] [.int v, .int (nI (wl s B k) - 1), .ref 7] SM im1 Q := by
            intro v hv2
            refine bX10_worked_123 (i2 := wl s B k - 1) ⟨by rfl, by rfl⟩ hs1 (by omega) ?_
            refine bX10_worked_157 ?_
            rw [nI_1 k]
            have := ih (k + 1) (xup im1 7 (wl s B k - 1) v) (by omega) (by omega) (fun q h7 => by rw [xup_o h7]; exact hq q h7) (fun j hj => by
              rw [hv1, hv2, xup_s]
              exact upd_agree fun hne => hp j (by omega))
            rw [hw1] at this
            exact this
          refine bX10_worked_24 g0 (by omega) g2 (by omega) (fun c2 => absurd (e1 ▸ c2) h0) (fun c2 => ?_)
          rw [e1]
          refine bX10_worked_59 (fun c3 => ?_) (fun c3 => absurd c3 h1)
          refine bX10_worked_94 (fun c4 => absurd hw c4) (fun c4 => ?_)
          refine bX10_worked_100 (i1 := wl s B k - 1) hs1 (by omega) (fun c5 => ?_) (fun c5 => ?_)
          · refine bX10_worked_122 ?_
            exact fin _ (if_neg c5)
          · refine bX10_worked_118 ?_
            exact fin _ (if_pos c5)
        · have h0 : ¬ s (B + 1 + 2 * k) = 0 := by rw [hw]; decide
          have h1 : ¬ s (B + 1 + 2 * k) = 1 := by rw [hw]; decide
          have h2 : ¬ s (B + 1 + 2 * k) = 2 := by rw [hw]; decide
          obtain ⟨m, hm⟩ : ∃ m, wl s B k = m + 2 := ⟨wl s B k - 2, by omega⟩
          have hw1 : wl s B (k + 1) = m + 1 := by rw [hwl, if_neg (fun h => h.elim h0 h1), if_neg h2, hm]; rfl
          refine bX10_worked_24 g0 (by omega) g2 (by omega) (fun c2 => absurd (e1 ▸ c2) h0) (fun c2 => ?_)
          rw [e1]
          refine bX10_worked_59 (fun c3 => ?_) (fun c3 => absurd c3 h1)
          refine bX10_worked_94 (fun c4 => ?_) (fun c4 => absurd c4 h2)
          have a1 : nI (wl s B k) + -1 = nI (m + 1) := by rw [hm]; exact pk_m1 (m + 1)
          have a2 : nI (wl s B k) + -1 - 1 = nI m := by rw [a1]; exact nI_pred m
          refine bX10_worked_127 (i1 := m) (i2 := m + 1) a2 (by omega) a1 (by omega) pX10_joined ?_
          rintro _ _ ⟨rfl, rfl⟩
          refine bX10_worked_156 (i2 := m) ⟨by rfl, by rfl⟩ a2 (by omega) ?_
          refine bX10_worked_157 ?_
          rw [nI_1 k, a1, show nI (m + 1) = nI (wl s B (k + 1)) by rw [hw1]]
          refine ih (k + 1) _ (by omega) (by omega) (fun q h7 => by rw [xup_o h7]; exact hq q h7) (fun j hj => ?_)
          rw [hev, xup_s]
          unfold ev1
          rw [if_neg h0, if_neg h1, if_neg h2, show wl s B k - 2 = m by omega, show wl s B k - 1 = m + 1 by omega, ← hp m (by omega), ← hp (m + 1) (by omega)]
          exact upd_agree fun hne => hp j (by omega)
  have h5 : (50 : Int32) + 125 * nI u = nI B := by rw [hB]; exact ix3 50 125 u
  rw [h5]
  exact key (cnt + 1) 0 im (by omega) (by omega) (fun _ _ => rfl) (fun j hj => absurd hj (Nat.not_lt_zero j))

-- ===== the island behind a call =====
theorem LwR.ext {s s' : Nat → Int32} {u : Nat} {im im' : XI} (hu : u < 2) (h : LwR 0 s u im) (hs : ∀ k, 50 ≤ k → k < 300 → s' k = s k) (ha : ∀ a, 4 ≤ a → a < 12 → a ≠ 7 → a ≠ 11 → im' a = im a) : LwR 0 s' u im' := by
  obtain ⟨h0, h3, c, hc, h1, h2⟩ := h
  refine ⟨by rw [ha _ (by omega) (by omega) (by omega) (by omega)]; exact h0, by rw [ha _ (by omega) (by omega) (by omega) (by omega), hs _ (by omega) (by omega)]; exact h3, c, hc, by rw [ha _ (by omega) (by omega) (by omega) (by omega)]; exact h1, fun hg => ?_⟩
  rw [hs _ (by omega) (by omega)] at hg ⊢
  refine ⟨(h2 hg).1, fun k hk => ?_⟩
  rw [ha _ (by omega) (by omega) (by omega) (by omega), hs _ (by omega) (by omega), hs _ (by omega) (by omega)]
  exact (h2 hg).2 k hk
theorem nn2 {s : Nat → Int32} {np nd : Nat} (hI : Iv s np nd) : ∃ n : Nat, n ≤ 60 ∧ s 2 = nI n ∧ nnat (s 2) = n := by
  obtain ⟨n, hn, e⟩ := hI.2.2.1
  exact ⟨n, hn, e, by rw [e, nnat_nI (by omega)]⟩
theorem nn3 {s : Nat → Int32} {np nd : Nat} (hI : Iv s np nd) : ∃ n : Nat, n ≤ 24 ∧ s 3 = nI n ∧ nnat (s 3) = n := by
  obtain ⟨n, hn, e⟩ := hI.2.2.2.1
  exact ⟨n, hn, e, by rw [e, nnat_nI (by omega)]⟩
theorem RI.plusP {s : Nat → Int32} {im : XI} {np nd : Nat} {km b f : Int32} (hI : Iv s np nd) (h : RI 0 s im) (hp : np < 6) : RI 0 (newP s np km b f) (xup (xup (xup (xup (xup im (16 + np) 0 (km / 10)) (16 + np) 1 (jrem km 10)) (16 + np) 2 b) (16 + np) 3 f) 1 6 (s 4 + 1)) := by
  obtain ⟨⟨a1, a2, a3, a4⟩, hpe, hd, ⟨t1, t2⟩, ⟨w1, w2⟩, l0, l1⟩ := h
  have hnd : nnat (s 5) ≤ 6 := by rw [nnd hI]; exact hI.2.1.1
  obtain ⟨n2, hn2, e2, m2⟩ := nn2 hI
  obtain ⟨n3, hn3, e3, m3⟩ := nn3 hI
  obtain ⟨I, hIm⟩ : ∃ I, I = (xup (xup (xup (xup (xup im (16 + np) 0 (km / 10)) (16 + np) 1 (jrem km 10)) (16 + np) 2 b) (16 + np) 3 f) 1 6 (s 4 + 1)) := ⟨_, rfl⟩
  rw [← hIm]
  have eo : ∀ a, a ≠ 1 → a ≠ 16 + np → I a = im a := by
    intro a h1 h2
    rw [hIm, xup_o h1, xup_o h2, xup_o h2, xup_o h2, xup_o h2]
  have e1 : ∀ k, k ≠ 6 → I 1 k = im 1 k := by
    intro k hk
    rw [hIm, xup_ne hk, xup_o (by omega), xup_o (by omega), xup_o (by omega), xup_o (by omega)]
  have so : ∀ j, j ≠ 4 → (j < 8 + 4 * np ∨ 11 + 4 * np < j) → newP s np km b f j = s j := by
    intro j h1 h2
    unfold newP
    rw [upd_ne h1, upd_ne (by omega), upd_ne (by omega), upd_ne (by omega), upd_ne (by omega)]
  have s4 : newP s np km b f 4 = s 4 + 1 := upd_at
  refine ⟨⟨?_, ?_, ?_, ?_⟩, ?_, ?_, ⟨?_, ?_⟩, ⟨?_, ?_⟩, ?_, ?_⟩
  · rw [s4, hIm]; exact xup_at
  · rw [so 5 (by omega) (by omega), e1 _ (by omega)]; exact a2
  · rw [so 0 (by omega) (by omega), e1 _ (by omega)]; exact a3
  · rw [so 1 (by omega) (by omega), e1 _ (by omega)]; exact a4
  · intro p hp'
    rw [s4, hI.1.2.1, nI_1, nnat_nI (by omega)] at hp'
    by_cases hpp : p = np
    · subst hpp
      refine ⟨?_, ?_, ?_, ?_⟩
      · show I (16 + p) 0 = newP s p km b f (8 + 4 * p)
        rw [hIm, xup_o (by omega), xup_ne (by omega), xup_ne (by omega), xup_ne (by omega), xup_at]
        unfold newP
        rw [upd_ne (by omega), upd_ne (by omega), upd_ne (by omega), upd_ne (by omega), upd_at]
      · show I (16 + p) 1 = newP s p km b f (9 + 4 * p)
        rw [hIm, xup_o (by omega), xup_ne (by omega), xup_ne (by omega), xup_at]
        unfold newP
        rw [upd_ne (by omega), upd_ne (by omega), upd_ne (by omega), upd_at]
      · show I (16 + p) 2 = newP s p km b f (10 + 4 * p)
        rw [hIm, xup_o (by omega), xup_ne (by omega), xup_at]
        unfold newP
        rw [upd_ne (by omega), upd_ne (by omega), upd_at]
      · show I (16 + p) 3 = newP s p km b f (11 + 4 * p)
        rw [hIm, xup_o (by omega), xup_at]
        unfold newP
        rw [upd_ne (by omega), upd_at]
    · rw [eo _ (by omega) (by omega), so _ (by omega) (by omega), so _ (by omega) (by omega), so _ (by omega) (by omega), so _ (by omega) (by omega)]
      exact hpe p (by rw [nnp hI]; omega)
  · intro d hd'
    rw [so 5 (by omega) (by omega)] at hd'
    rw [eo _ (by omega) (by omega), so _ (by omega) (by omega), so _ (by omega) (by omega), so _ (by omega) (by omega)]
    exact hd d hd'
  · rw [eo _ (by omega) (by omega), so _ (by omega) (by omega)]; exact t1
  · intro k hk
    rw [so 2 (by omega) (by omega)] at hk
    rw [eo _ (by omega) (by omega), so _ (by omega) (by omega)]
    exact t2 k hk
  · rw [eo _ (by omega) (by omega), so _ (by omega) (by omega)]; exact w1
  · intro k hk
    rw [so 3 (by omega) (by omega)] at hk
    rw [eo _ (by omega) (by omega), so _ (by omega) (by omega)]
    exact w2 k hk
  · exact l0.ext (by omega) (fun k h1 h2 => so k (by omega) (by omega)) (fun a h1 h2 _ _ => eo a (by omega) (by omega))
  · exact l1.ext (by omega) (fun k h1 h2 => so k (by omega) (by omega)) (fun a h1 h2 _ _ => eo a (by omega) (by omega))
theorem RI.plusD {s : Nat → Int32} {im : XI} {np nd : Nat} {v q w : Int32} (hI : Iv s np nd) (h : RI 0 s im) (hd6 : nd < 6) : RI 0 (newD s nd v q w) (xup (xup (xup (xup im (22 + nd) 0 v) (22 + nd) 1 q) (22 + nd) 2 w) 1 7 (s 5 + 1)) := by
  obtain ⟨⟨a1, a2, a3, a4⟩, hpe, hd, ⟨t1, t2⟩, ⟨w1, w2⟩, l0, l1⟩ := h
  have hnp : nnat (s 4) ≤ 6 := by rw [nnp hI]; exact hI.1.1
  obtain ⟨n2, hn2, e2, m2⟩ := nn2 hI
  obtain ⟨n3, hn3, e3, m3⟩ := nn3 hI
  obtain ⟨I, hIm⟩ : ∃ I, I = (xup (xup (xup (xup im (22 + nd) 0 v) (22 + nd) 1 q) (22 + nd) 2 w) 1 7 (s 5 + 1)) := ⟨_, rfl⟩
  rw [← hIm]
  have eo : ∀ a, a ≠ 1 → a ≠ 22 + nd → I a = im a := by
    intro a h1 h2
    rw [hIm, xup_o h1, xup_o h2, xup_o h2, xup_o h2]
  have e1 : ∀ k, k ≠ 7 → I 1 k = im 1 k := by
    intro k hk
    rw [hIm, xup_ne hk, xup_o (by omega), xup_o (by omega), xup_o (by omega)]
  have so : ∀ j, j ≠ 5 → (j < 32 + 3 * nd ∨ 34 + 3 * nd < j) → newD s nd v q w j = s j := by
    intro j h1 h2
    unfold newD
    rw [upd_ne h1, upd_ne (by omega), upd_ne (by omega), upd_ne (by omega)]
  have s5 : newD s nd v q w 5 = s 5 + 1 := upd_at
  refine ⟨⟨?_, ?_, ?_, ?_⟩, ?_, ?_, ⟨?_, ?_⟩, ⟨?_, ?_⟩, ?_, ?_⟩
  · rw [so 4 (by omega) (by omega), e1 _ (by omega)]; exact a1
  · rw [s5, hIm]; exact xup_at
  · rw [so 0 (by omega) (by omega), e1 _ (by omega)]; exact a3
  · rw [so 1 (by omega) (by omega), e1 _ (by omega)]; exact a4
  · intro p hp'
    rw [so 4 (by omega) (by omega)] at hp'
    rw [eo _ (by omega) (by omega), so _ (by omega) (by omega), so _ (by omega) (by omega), so _ (by omega) (by omega), so _ (by omega) (by omega)]
    exact hpe p hp'
  · intro d hd'
    rw [s5, hI.2.1.2.1, nI_1, nnat_nI (by omega)] at hd'
    by_cases hdd : d = nd
    · subst hdd
      refine ⟨?_, ?_, ?_⟩
      · show I (22 + d) 0 = newD s d v q w (32 + 3 * d)
        rw [hIm, xup_o (by omega), xup_ne (by omega), xup_ne (by omega), xup_at]
        unfold newD
        rw [upd_ne (by omega), upd_ne (by omega), upd_ne (by omega), upd_at]
      · show I (22 + d) 1 = newD s d v q w (33 + 3 * d)
        rw [hIm, xup_o (by omega), xup_ne (by omega), xup_at]
        unfold newD
        rw [upd_ne (by omega), upd_ne (by omega), upd_at]
      · show I (22 + d) 2 = newD s d v q w (34 + 3 * d)
        rw [hIm, xup_o (by omega), xup_at]
        unfold newD
        rw [upd_ne (by omega), upd_at]
    · rw [eo _ (by omega) (by omega), so _ (by omega) (by omega), so _ (by omega) (by omega), so _ (by omega) (by omega)]
      exact hd d (by rw [nnd hI]; omega)
  · rw [eo _ (by omega) (by omega), so _ (by omega) (by omega)]; exact t1
  · intro k hk
    rw [so 2 (by omega) (by omega)] at hk
    rw [eo _ (by omega) (by omega), so _ (by omega) (by omega)]
    exact t2 k hk
  · rw [eo _ (by omega) (by omega), so _ (by omega) (by omega)]; exact w1
  · intro k hk
    rw [so 3 (by omega) (by omega)] at hk
    rw [eo _ (by omega) (by omega), so _ (by omega) (by omega)]
    exact w2 k hk
  · exact l0.ext (by omega) (fun k h1 h2 => so k (by omega) (by omega)) (fun a h1 h2 _ _ => eo a (by omega) (by omega))
  · exact l1.ext (by omega) (fun k h1 h2 => so k (by omega) (by omega)) (fun a h1 h2 _ _ => eo a (by omega) (by omega))
/-- a change of the row at 2, 3 or 300 and on, and of the rows of the class' tape and waiting numbers -/
theorem RI.rows {s s' : Nat → Int32} {im im' : XI} {np nd : Nat} (hI : Iv s np nd) (h : RI 0 s im) (hs : ∀ k, k ≠ 2 → k ≠ 3 → k < 300 → s' k = s k) (ha : ∀ a, 1 ≤ a → a < 28 → a ≠ 7 → a ≠ 11 → ¬ (12 ≤ a ∧ a ≤ 15) → im' a = im a) (ht : TaR 0 s' im') (hw : WaR 0 s' im') : RI 0 s' im' := by
  obtain ⟨⟨a1, a2, a3, a4⟩, hpe, hd, _, _, l0, l1⟩ := h
  have hnp : nnat (s 4) ≤ 6 := by rw [nnp hI]; exact hI.1.1
  have hnd : nnat (s 5) ≤ 6 := by rw [nnd hI]; exact hI.2.1.1
  have e1 : im' 1 = im 1 := ha 1 (by omega) (by omega) (by omega) (by omega) (by omega)
  refine ⟨⟨?_, ?_, ?_, ?_⟩, ?_, ?_, ht, hw, ?_, ?_⟩
  · rw [hs 4 (by omega) (by omega) (by omega), e1]; exact a1
  · rw [hs 5 (by omega) (by omega) (by omega), e1]; exact a2
  · rw [hs 0 (by omega) (by omega) (by omega), e1]; exact a3
  · rw [hs 1 (by omega) (by omega) (by omega), e1]; exact a4
  · intro p hp
    rw [hs 4 (by omega) (by omega) (by omega)] at hp
    rw [ha _ (by omega) (by omega) (by omega) (by omega) (by omega), hs _ (by omega) (by omega) (by omega), hs _ (by omega) (by omega) (by omega), hs _ (by omega) (by omega) (by omega), hs _ (by omega) (by omega) (by omega)]
    exact hpe p hp
  · intro d hd'
    rw [hs 5 (by omega) (by omega) (by omega)] at hd'
    rw [ha _ (by omega) (by omega) (by omega) (by omega) (by omega), hs _ (by omega) (by omega) (by omega), hs _ (by omega) (by omega) (by omega), hs _ (by omega) (by omega) (by omega)]
    exact hd d hd'
  · exact l0.ext (by omega) (fun k h1 h2 => hs k (by omega) (by omega) h2) (fun a h1 h2 h3 h4 => ha a (by omega) (by omega) h3 h4 (by omega))
  · exact l1.ext (by omega) (fun k h1 h2 => hs k (by omega) (by omega) h2) (fun a h1 h2 h3 h4 => ha a (by omega) (by omega) h3 h4 (by omega))
/-- a change of the laws alone -/
theorem RI.laws {s s' : Nat → Int32} {im im' : XI} {np nd : Nat} (hI : Iv s np nd) (h : RI 0 s im) (hs : ∀ k, k < 50 → s' k = s k) (hs3 : ∀ k, 300 ≤ k → s' k = s k) (ha : ∀ a, 1 ≤ a → a < 28 → ¬ (4 ≤ a ∧ a ≤ 11) → im' a = im a) (h0 : LwR 0 s' 0 im') (h1 : LwR 0 s' 1 im') : RI 0 s' im' := by
  obtain ⟨⟨a1, a2, a3, a4⟩, hpe, hd, ⟨t1, t2⟩, ⟨w1, w2⟩, _, _⟩ := h
  have hnp : nnat (s 4) ≤ 6 := by rw [nnp hI]; exact hI.1.1
  have hnd : nnat (s 5) ≤ 6 := by rw [nnd hI]; exact hI.2.1.1
  have e1 : im' 1 = im 1 := ha 1 (by omega) (by omega) (by omega)
  refine ⟨⟨?_, ?_, ?_, ?_⟩, ?_, ?_, ⟨?_, ?_⟩, ⟨?_, ?_⟩, h0, h1⟩
  · rw [hs 4 (by omega), e1]; exact a1
  · rw [hs 5 (by omega), e1]; exact a2
  · rw [hs 0 (by omega), e1]; exact a3
  · rw [hs 1 (by omega), e1]; exact a4
  · intro p hp
    rw [hs 4 (by omega)] at hp
    rw [ha _ (by omega) (by omega) (by omega), hs _ (by omega), hs _ (by omega), hs _ (by omega), hs _ (by omega)]
    exact hpe p hp
  · intro d hd'
    rw [hs 5 (by omega)] at hd'
    rw [ha _ (by omega) (by omega) (by omega), hs _ (by omega), hs _ (by omega), hs _ (by omega)]
    exact hd d hd'
  · rw [ha _ (by omega) (by omega) (by omega), hs _ (by omega)]; exact t1
  · intro k hk
    rw [hs 2 (by omega)] at hk
    rw [ha _ (by omega) (by omega) (by omega), hs3 _ (by omega)]
    exact t2 k hk
  · rw [ha _ (by omega) (by omega) (by omega), hs _ (by omega)]; exact w1
  · intro k hk
    rw [hs 3 (by omega)] at hk
    rw [ha _ (by omega) (by omega) (by omega), hs3 _ (by omega)]
    exact w2 k hk

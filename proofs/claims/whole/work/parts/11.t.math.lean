theorem LwR.ext2 {s s' : Nat → Int32} {u : Nat} {im im' : XI} (h : LwR 0 s u im) (hs : ∀ k, 50 + 125 * u ≤ k → k < 175 + 125 * u → s' k = s k) (ha : ∀ a, 4 + 4 * u ≤ a → a < 7 + 4 * u → im' a = im a) : LwR 0 s' u im' := by
  obtain ⟨h0, h3, c, hc, h1, h2⟩ := h
  refine ⟨by rw [ha _ (by omega) (by omega)]; exact h0, by rw [ha _ (by omega) (by omega), hs _ (by omega) (by omega)]; exact h3, c, hc, by rw [ha _ (by omega) (by omega)]; exact h1, fun hg => ?_⟩
  rw [hs _ (by omega) (by omega)] at hg ⊢
  refine ⟨(h2 hg).1, fun k hk => ?_⟩
  rw [ha _ (by omega) (by omega), hs _ (by omega) (by omega), hs _ (by omega) (by omega)]
  exact (h2 hg).2 k hk
theorem fd0_o {s by0 : Nat → Int32} {k j : Nat} (h2 : j ≠ 2) (h : j < 300 + nnat (s 2) ∨ 300 + nnat (s 2) + k ≤ j) : fd0 s by0 k j = s j := by
  induction k with
  | zero => rfl
  | succ k ih =>
    show upd (upd (fd0 s by0 k) _ _) 2 _ j = _
    rw [upd_ne h2, upd_ne (by omega), ih (by omega)]
theorem fd0_at {s by0 : Nat → Int32} {k j : Nat} (h : j < k) : fd0 s by0 k (300 + (nnat (s 2) + j)) = by0 j := by
  induction k with
  | zero => omega
  | succ k ih =>
    show upd (upd (fd0 s by0 k) _ _) 2 _ _ = _
    rw [upd_ne (by omega)]
    by_cases e : j = k
    · subst e; exact upd_at
    · rw [upd_ne (by omega)]
      exact ih (by omega)
theorem okL_ne {u : Nat} {l : List PStp} {d : Nat} (h : okL u l d (d + 1)) : 0 < l.length := by
  cases l with
  | nil => exact absurd (show d = d + 1 from h) (by omega)
  | cons x l => exact Nat.succ_pos _
/-- the class' island behind a text that is right -/
theorem RI.textR {s : Nat → Int32} {im im' : XI} {np nd u : Nat} {l : List PStp} (hI : Iv s np nd) (h : RI 0 s im) (hu : u < 2) (hl : l.length ≤ 60) (hl0 : 0 < l.length) (ht : im' 12 1 = 0) (ha : ∀ a, 1 ≤ a → a < 28 → a ≠ 12 → a ≠ 7 → a ≠ 11 → ¬ (4 + 4 * u ≤ a ∧ a < 7 + 4 * u) → im' a = im a) (h0 : im' (4 + 4 * u) 0 = nI u) (h3 : im' (4 + 4 * u) 3 = 1) (h5 : im' (5 + 4 * u) 1 = nI l.length) (h6 : ∀ k, k < l.length → im' (6 + 4 * u) k = tok u (l.getD k (0, 0)).1 (l.getD k (0, 0)).2) : RI 0 (textS s u l) im' := by
  have tB : textS s u l (50 + 125 * u) = nI l.length := if_pos rfl
  have to : ∀ k, k ≠ 2 → (k < 50 + 125 * u ∨ 175 + 125 * u ≤ k) → textS s u l k = s k := by
    intro k h1 h2
    unfold textS
    rw [if_neg (by omega), if_neg (by omega), if_neg h1]
  have t2 : textS s u l 2 = 0 := by
    unfold textS
    rw [if_neg (by omega), if_neg (by omega), if_pos rfl]
  have lu : LwR 0 (textS s u l) u im' := by
    refine ⟨h0, ?_, l.length, hl, h5, fun _ => ⟨tB, fun k hk => ?_⟩⟩
    · show im' (4 + 4 * u) 3 = _
      rw [tB, h3, b2i_t ((nI_lt0 (by omega)).mpr hl0)]
    · show im' (6 + 4 * u) k = _
      rw [h6 k hk]
      have e1 : textS s u l (50 + 125 * u + 1 + 2 * k) = (l.getD k (0, 0)).1 := by
        unfold textS
        rw [if_neg (by omega), if_pos (by omega), show 50 + 125 * u + 1 + 2 * k - (51 + 125 * u) = 2 * k by omega]
        unfold clS
        rw [if_pos (by omega), show 2 * k / 2 = k by omega]
      have e2 : textS s u l (50 + 125 * u + 2 + 2 * k) = (l.getD k (0, 0)).2 := by
        unfold textS
        rw [if_neg (by omega), if_pos (by omega), show 50 + 125 * u + 2 + 2 * k - (51 + 125 * u) = 2 * k + 1 by omega]
        unfold clS
        rw [if_neg (by omega), show (2 * k + 1) / 2 = k by omega]
      rw [e1, e2]
  obtain ⟨⟨a1, a2, a3, a4⟩, hpe, hd, ⟨t1, t3⟩, ⟨w1, w2⟩, l0, l1⟩ := h
  have hnp : nnat (s 4) ≤ 6 := by rw [nnp hI]; exact hI.1.1
  have hnd : nnat (s 5) ≤ 6 := by rw [nnd hI]; exact hI.2.1.1
  have e1 : im' 1 = im 1 := ha 1 (by omega) (by omega) (by omega) (by omega) (by omega) (by omega)
  refine ⟨⟨?_, ?_, ?_, ?_⟩, ?_, ?_, ⟨?_, ?_⟩, ⟨?_, ?_⟩, ?_, ?_⟩
  · rw [to 4 (by omega) (by omega), e1]; exact a1
  · rw [to 5 (by omega) (by omega), e1]; exact a2
  · rw [to 0 (by omega) (by omega), e1]; exact a3
  · rw [to 1 (by omega) (by omega), e1]; exact a4
  · intro p hp
    rw [to 4 (by omega) (by omega)] at hp
    rw [ha _ (by omega) (by omega) (by omega) (by omega) (by omega) (by omega), to _ (by omega) (by omega), to _ (by omega) (by omega), to _ (by omega) (by omega), to _ (by omega) (by omega)]
    exact hpe p hp
  · intro d hd'
    rw [to 5 (by omega) (by omega)] at hd'
    rw [ha _ (by omega) (by omega) (by omega) (by omega) (by omega) (by omega), to _ (by omega) (by omega), to _ (by omega) (by omega), to _ (by omega) (by omega)]
    exact hd d hd'
  · rw [t2]; exact ht
  · intro k hk
    rw [t2] at hk
    exact absurd hk (Nat.not_lt_zero k)
  · rw [ha _ (by omega) (by omega) (by omega) (by omega) (by omega) (by omega), to _ (by omega) (by omega)]; exact w1
  · intro k hk
    rw [to 3 (by omega) (by omega)] at hk
    rw [ha _ (by omega) (by omega) (by omega) (by omega) (by omega) (by omega), to _ (by omega) (by omega)]
    exact w2 k hk
  · match u, hu with
    | 0, _ => exact lu
    | 1, _ => exact l0.ext2 (fun k h1 h2 => to k (by omega) (by omega)) (fun a h1 h2 => ha a (by omega) (by omega) (by omega) (by omega) (by omega) (by omega))
  · match u, hu with
    | 0, _ => exact l1.ext2 (fun k h1 h2 => to k (by omega) (by omega)) (fun a h1 h2 => ha a (by omega) (by omega) (by omega) (by omega) (by omega) (by omega))
    | 1, _ => exact lu

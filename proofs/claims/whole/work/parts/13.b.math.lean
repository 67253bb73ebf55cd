def s00 : Nat → Int32 := upd (fun _ => 0) 1 1
theorem Iv_00 : Iv s00 0 0 := by
  have t : ∀ u, u < 2 → textOk s00 u := by
    intro u hu
    refine ⟨0, by omega, ?_, fun k hk => absurd hk (Nat.not_lt_zero k), fun h => absurd h (Nat.lt_irrefl 0)⟩
    exact upd_ne (by omega)
  exact ⟨⟨by omega, upd_ne (by decide), fun p hp => absurd hp (Nat.not_lt_zero p)⟩, ⟨by omega, upd_ne (by decide), fun p hp => absurd hp (Nat.not_lt_zero p)⟩, ⟨0, by omega, upd_ne (by decide)⟩, ⟨0, by omega, upd_ne (by decide)⟩, t 0 (by omega), t 1 (by omega)⟩
theorem wI_in {b n a j : Nat} {I0 f : XI} (h : b ≤ a) (h2 : a < b + n) : wI b I0 n f a j = f (a - b) j := if_pos ⟨h, h2⟩
theorem wI_1 {im : XI} (h : ∀ j, im 0 j = 0) : im = wI 0 im 1 (fun _ _ => 0) := by
  funext a j
  unfold wI
  by_cases c : 0 ≤ a ∧ a < 0 + 1
  · rw [if_pos c]
    obtain rfl : a = 0 := by omega
    exact h j
  · rw [if_neg c]
theorem wW_one {k : XK} : wW [] w00 [k] [] = ([k], w00) := by rw [wW_0]; rfl

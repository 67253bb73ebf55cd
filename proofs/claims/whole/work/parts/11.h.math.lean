theorem RI.ext {s : Nat → Int32} {im im' : XI} {np nd : Nat} (hI : Iv s np nd) (h : RI 0 s im) (hk : ∀ a, 1 ≤ a → a < 28 → a ≠ 7 → a ≠ 11 → im' a = im a) : RI 0 s im' := by
  have : RI 0 s (fun a => if a = 7 ∨ a = 11 then im a else im' a) := by
    obtain ⟨⟨a1, a2, a3, a4⟩, hp, hd, ⟨t1, t2⟩, ⟨w1, w2⟩, l0, l1⟩ := h
    have hnp : nnat (s 4) ≤ 6 := by rw [hI.1.2.1, nnat_nI (by have := hI.1.1; omega)]; exact hI.1.1
    have hnd : nnat (s 5) ≤ 6 := by rw [hI.2.1.2.1, nnat_nI (by have := hI.2.1.1; omega)]; exact hI.2.1.1
    have e : ∀ a, 1 ≤ a → a < 28 → (fun a => if a = 7 ∨ a = 11 then im a else im' a) a = im a := by
      intro a h1 h2
      dsimp only
      split
      · rfl
      · exact hk a h1 h2 (by omega) (by omega)
    have lw : ∀ u, u < 2 → LwR 0 s u im → LwR 0 s u (fun a => if a = 7 ∨ a = 11 then im a else im' a) := by
      intro u hu h
      obtain ⟨h0, h3, c, hc, h1, h2⟩ := h
      refine ⟨by rw [e _ (by omega) (by omega)]; exact h0, by rw [e _ (by omega) (by omega)]; exact h3, c, hc, by rw [e _ (by omega) (by omega)]; exact h1, fun hg => ⟨(h2 hg).1, fun k hkc => ?_⟩⟩
      rw [e _ (by omega) (by omega)]
      exact (h2 hg).2 k hkc
    exact ⟨⟨by rw [e _ (by omega) (by omega)]; exact a1, by rw [e _ (by omega) (by omega)]; exact a2, by rw [e _ (by omega) (by omega)]; exact a3, by rw [e _ (by omega) (by omega)]; exact a4⟩, fun p hp' => by rw [e _ (by omega) (by omega)]; exact hp p hp', fun d hd' => by rw [e _ (by omega) (by omega)]; exact hd d hd', ⟨by rw [e _ (by omega) (by omega)]; exact t1, fun k hk' => by rw [e _ (by omega) (by omega)]; exact t2 k hk'⟩, ⟨by rw [e _ (by omega) (by omega)]; exact w1, fun k hk' => by rw [e _ (by omega) (by omega)]; exact w2 k hk'⟩, lw 0 (by omega) l0, lw 1 (by omega) l1⟩
  refine this.kC hI ?_
  intro a k hk
  dsimp only
  rw [if_neg hk]
/-- what the foresight changes -/
def kF (im im' : XI) : Prop := ∀ a k, ¬ (a = 7 ∨ a = 11 ∨ a = 31 ∨ a = 32) → im' a k = im a k
theorem kF.rf {im : XI} : kF im im := fun _ _ _ => rfl
theorem kF.tr {a b c : XI} (h : kF a b) (h2 : kF b c) : kF a c := fun q k hq => (h2 q k hq).trans (h q k hq)
theorem kF.up {im im0 : XI} {a i : Nat} {v : Int32} (h : kF im0 im) (hg : a = 7 ∨ a = 11 ∨ a = 31 ∨ a = 32) : kF im0 (xup im a i v) := by
  intro q k hq
  rw [xup_o (fun e => hq (by rw [e]; exact hg))]
  exact h q k hq
theorem kC.F {im im' : XI} (h : kC im im') : kF im im' := fun a k hk => h a k (fun hg => hk (by omega))
theorem kF.K {im im' : XI} (h : kF im im') : kK im im' := fun a k hk => h a k (fun hg => hk (by omega))
theorem RI.kF {s : Nat → Int32} {im im' : XI} {np nd : Nat} (hI : Iv s np nd) (h : RI 0 s im) (hk : kF im im') : RI 0 s im' := h.ext hI (fun a _ _ _ _ => by funext k; exact hk a k (by omega))
theorem stepL_nat {s : Nat → Int32} {d q : Nat} {w l sh : Int32} (hl : l = nI q) (hq : q ≤ 99) : ∃ r : Nat, r ≤ 99 ∧ stepL s d w l sh = nI r := by
  unfold stepL
  split
  · exact ⟨q, hq, hl⟩
  · exact held_nat _ rfl (by decide)
theorem leftN_0 {s : Nat → Int32} {d : Nat} {w t : Int32} {k m : Nat} (h : leftN s d w t k = 0) (hm : k ≤ m) : leftN s d w t m = 0 := by
  induction m with
  | zero =>
    obtain rfl : k = 0 := by omega
    exact h
  | succ m ih =>
    by_cases e : k = m + 1
    · subst e; exact h
    · have := ih (by omega)
      show stepL s d w (leftN s d w t m) _ = 0
      unfold stepL
      rw [if_pos (Or.inl this), this]
theorem firstP_1 {c : Nat → Int32} {v : Int32} {f k : Nat} (h : c k = v) : firstP c v (f + 1) k = nI k := by
  show (if c k = v then nI k else _) = _
  rw [if_pos h]
theorem firstP_2 {c : Nat → Int32} {v : Int32} {f k : Nat} (h : ¬ c k = v) : firstP c v (f + 1) k = firstP c v f (k + 1) := by
  show (if c k = v then nI k else _) = _
  rw [if_neg h]
theorem on1_L (s : Nat → Int32) (d : Nat) (sh : Int32) : on1 s d sh = stepL s d (s (34 + 3 * d)) (s (33 + 3 * d)) sh := rfl

theorem or_and_d (a b c : Int32) : (a ||| b) &&& c = (a &&& c) ||| (b &&& c) := by
  apply Int32.toBitVec_inj.mp
  simp only [Int32.toBitVec_and, Int32.toBitVec_or]
  exact BitVec.and_or_distrib_right
theorem told0_01 (s : Nat → Int32) (a b c : Int32) : told0 s a b c = 0 ∨ told0 s a b c = 1 := by
  obtain ⟨q, hq, e⟩ := held_nat (if 0 < s 50 then work0 s 0 a b c else b) (y := 1) (n := 1) rfl (by decide)
  have e : told0 s a b c = nI q := e
  match q, hq with
  | 0, _ => exact Or.inl e
  | 1, _ => exact Or.inr e
theorem shutG_01 (s : Nat → Int32) (p : Nat) (t b f : Int32) : shutG s p t b f = 0 ∨ shutG s p t b f = 1 := told0_01 _ _ _ _
theorem shutG_b (s : Nat → Int32) (p : Nat) (t b f : Int32) : shutG s p t b f = b2i (shutG s p t b f = 1) := by
  rcases shutG_01 s p t b f with h | h
  · rw [h]; rfl
  · rw [h]; rfl
theorem on0_nat (s : Nat → Int32) (a b c : Int32) : ∃ q : Nat, q ≤ 9 ∧ on0 s a b c = nI q := held_nat _ rfl (by decide)
theorem allTN_63 (s : Nat → Int32) (t : Int32) : ∀ n : Nat, n ≤ 6 → allTN s t n &&& 63 = allTN s t n := by
  intro n
  induction n with
  | zero => intro _; exact (by decide : (0 : Int32) &&& 63 = 0)
  | succ n ih =>
    intro hn
    unfold allTN
    rw [or_and_d, ih (by omega)]
    congr 1
    have h : ∀ b : Int32, (b = 0 ∨ b = 1) → ∀ k : Nat, k < 6 → (b <<< (nI k &&& 31)) &&& 63 = b <<< (nI k &&& 31) := by
      intro b hb k hk
      rcases hb with rfl | rfl
      · match k, hk with
        | 0, _ => rfl
        | 1, _ => rfl
        | 2, _ => rfl
        | 3, _ => rfl
        | 4, _ => rfl
        | 5, _ => rfl
      · match k, hk with
        | 0, _ => rfl
        | 1, _ => rfl
        | 2, _ => rfl
        | 3, _ => rfl
        | 4, _ => rfl
        | 5, _ => rfl
    exact h _ (shutG_01 _ _ _ _ _) n (by omega)
theorem allT_nat {s : Nat → Int32} {np nd : Nat} (t : Int32) (hI : Iv s np nd) : ∃ m : Nat, m < 64 ∧ allT s t = nI m := by
  unfold allT
  rw [hI.1.2.1, nnat_nI (by have := hI.1.1; omega)]
  obtain ⟨m, hm, e⟩ := pk_andE (allTN s t np) (m := 63) 6 rfl
  exact ⟨m, hm, by rw [← e, allTN_63 s t np hI.1.1]⟩
theorem and64 {m : Nat} (hm : m < 64) (y : Int32) : ∃ n : Nat, n < 64 ∧ nI m &&& y = nI n := by
  obtain ⟨n, hn, e⟩ := pk_andE (nI m &&& y) (m := 63) 6 rfl
  refine ⟨n, hn, ?_⟩
  rw [← e, Int32.and_assoc, Int32.and_comm y, ← Int32.and_assoc]
  congr 1
  have : nI m &&& 63 = nI (m % 2 ^ 6) := pk_andN (by omega) 6 rfl
  rw [this, Nat.mod_eq_of_lt hm]
theorem and1 (x : Int32) : x &&& 1 = 0 ∨ x &&& 1 = 1 := by
  obtain ⟨n, hn, e⟩ := pk_andE x (m := 1) 1 rfl
  rw [e]
  match n, hn with
  | 0, _ => exact Or.inl rfl
  | 1, _ => exact Or.inr rfl
-- what a cell of the island's holds of the row
def cellOf (j a i : Nat) : Prop := (j = 0 ∧ a = 1 ∧ i = 8) ∨ (j = 1 ∧ a = 1 ∧ i = 9) ∨ (∃ p w, p < 6 ∧ w < 4 ∧ j = 8 + w + 4 * p ∧ a = 16 + p ∧ i = w) ∨ (∃ d w, d < 6 ∧ w < 3 ∧ j = 32 + w + 3 * d ∧ a = 22 + d ∧ i = w)
theorem xu {s : Nat → Int32} {im : XI} {a i j a' i' j' : Nat} {v : Int32} (h : im a' i' = s j') (hi : (a' = a ∧ i' = i) ↔ j' = j) : xup im a i v a' i' = upd s j v j' := by
  simp only [xup, upd]
  by_cases c : j' = j
  · rw [if_pos (hi.mpr c), if_pos c]
  · rw [if_neg (fun g => c (hi.mp g)), if_neg c]
    exact h
theorem cellOf_lt {j a i : Nat} (h : cellOf j a i) : j ≠ 2 ∧ j ≠ 3 ∧ j ≠ 4 ∧ j ≠ 5 ∧ j < 50 ∧ (a = 1 ∨ (16 ≤ a ∧ a < 28)) := by
  rcases h with ⟨h, g, _⟩ | ⟨h, g, _⟩ | ⟨p, w, h1, h2, h, g, _⟩ | ⟨p, w, h1, h2, h, g, _⟩ <;> omega
theorem LwR.set {s : Nat → Int32} {u j a i : Nat} {im : XI} {v : Int32} (hu : u < 2) (h : LwR 0 s u im) (hj : j < 50) (ha : a = 1 ∨ (16 ≤ a ∧ a < 28)) : LwR 0 (upd s j v) u (xup im a i v) := by
  obtain ⟨h0, h3, c, hc, h1, h2⟩ := h
  have e : ∀ k, 50 ≤ k → upd s j v k = s k := fun k hk => upd_ne (by omega)
  refine ⟨by rw [xup_o (by omega)]; exact h0, by rw [xup_o (by omega), e _ (by omega)]; exact h3, c, hc, by rw [xup_o (by omega)]; exact h1, fun hg => ?_⟩
  rw [e _ (by omega)] at hg ⊢
  refine ⟨(h2 hg).1, fun k hk => ?_⟩
  rw [xup_o (by omega), e _ (by omega), e _ (by omega)]
  exact (h2 hg).2 k hk
theorem RI.set {s : Nat → Int32} {im : XI} {np nd j a i : Nat} {v : Int32} (hI : Iv s np nd) (h : RI 0 s im) (hc : cellOf j a i) : RI 0 (upd s j v) (xup im a i v) := by
  obtain ⟨⟨a1, a2, a3, a4⟩, hp, hd, ⟨t1, t2⟩, ⟨w1, w2⟩, l0, l1⟩ := h
  obtain ⟨j2, j3, j4, j5, j50, ha⟩ := cellOf_lt hc
  have hnp : nnat (s 4) ≤ 6 := by rw [hI.1.2.1, nnat_nI (by have := hI.1.1; omega)]; exact hI.1.1
  have hnd : nnat (s 5) ≤ 6 := by rw [hI.2.1.2.1, nnat_nI (by have := hI.2.1.1; omega)]; exact hI.2.1.1
  have n2 : nnat (s 2) ≤ 60 := by obtain ⟨n, hn, e⟩ := hI.2.2.1; rw [e, nnat_nI (by omega)]; exact hn
  have n3 : nnat (s 3) ≤ 24 := by obtain ⟨n, hn, e⟩ := hI.2.2.2.1; rw [e, nnat_nI (by omega)]; exact hn
  have e4 : upd s j v 4 = s 4 := upd_ne (by omega)
  have e5 : upd s j v 5 = s 5 := upd_ne (by omega)
  have e2 : upd s j v 2 = s 2 := upd_ne (by omega)
  have e3 : upd s j v 3 = s 3 := upd_ne (by omega)
  have cj : ∀ a' i' j', ((a' = 1 ∧ i' = 6 ∧ j' = 4) ∨ (a' = 1 ∧ i' = 7 ∧ j' = 5) ∨ (a' = 1 ∧ i' = 8 ∧ j' = 0) ∨ (a' = 1 ∧ i' = 9 ∧ j' = 1) ∨ (∃ p w, p < 6 ∧ w < 4 ∧ a' = 16 + p ∧ i' = w ∧ j' = 8 + w + 4 * p) ∨ (∃ d w, d < 6 ∧ w < 3 ∧ a' = 22 + d ∧ i' = w ∧ j' = 32 + w + 3 * d)) → ((a' = a ∧ i' = i) ↔ j' = j) := by
    intro a' i' j' hh
    rcases hc with ⟨h1, h2, h3⟩ | ⟨h1, h2, h3⟩ | ⟨p, w, b1, b2, h1, h2, h3⟩ | ⟨p, w, b1, b2, h1, h2, h3⟩ <;> rcases hh with ⟨g1, g2, g3⟩ | ⟨g1, g2, g3⟩ | ⟨g1, g2, g3⟩ | ⟨g1, g2, g3⟩ | ⟨p', w', c1, c2, g1, g2, g3⟩ | ⟨p', w', c1, c2, g1, g2, g3⟩ <;> omega
  refine ⟨⟨xu a1 (cj _ _ _ (by omega)), xu a2 (cj _ _ _ (by omega)), xu a3 (cj _ _ _ (by omega)), xu a4 (cj _ _ _ (by omega))⟩, ?_, ?_, ⟨?_, ?_⟩, ⟨?_, ?_⟩, l0.set (by omega) j50 ha, l1.set (by omega) j50 ha⟩
  · intro p hp'
    rw [e4] at hp'
    obtain ⟨b1, b2, b3, b4⟩ := hp p hp'
    have q : ∀ w j', w < 4 → j' = 8 + w + 4 * p → ((16 + p + 0 = a ∧ w = i) ↔ j' = j) := fun w j' hw hj => cj _ _ _ (Or.inr (Or.inr (Or.inr (Or.inr (Or.inl ⟨p, w, by omega, hw, rfl, rfl, hj⟩)))))
    exact ⟨xu b1 (q 0 _ (by omega) (by omega)), xu b2 (q 1 _ (by omega) (by omega)), xu b3 (q 2 _ (by omega) (by omega)), xu b4 (q 3 _ (by omega) (by omega))⟩
  · intro d hd'
    rw [e5] at hd'
    obtain ⟨b1, b2, b3⟩ := hd d hd'
    have q : ∀ w j', w < 3 → j' = 32 + w + 3 * d → ((22 + d + 0 = a ∧ w = i) ↔ j' = j) := fun w j' hw hj => cj _ _ _ (Or.inr (Or.inr (Or.inr (Or.inr (Or.inr ⟨d, w, by omega, hw, rfl, rfl, hj⟩)))))
    exact ⟨xu b1 (q 0 _ (by omega) (by omega)), xu b2 (q 1 _ (by omega) (by omega)), xu b3 (q 2 _ (by omega) (by omega))⟩
  · rw [e2, xup_o (by omega)]; exact t1
  · intro k hk
    rw [e2] at hk
    rw [xup_o (by omega), upd_ne (by omega)]
    exact t2 k hk
  · rw [e3, xup_o (by omega)]; exact w1
  · intro k hk
    rw [e3] at hk
    rw [xup_o (by omega), upd_ne (by omega)]
    exact w2 k hk
/-- what a call may change in the class: the island and what only thinks -/
def kK (im im' : XI) : Prop := ∀ a k, ¬ (1 ≤ a ∧ a ≤ 32) → im' a k = im a k
theorem kK.rf {im : XI} : kK im im := fun _ _ _ => rfl
theorem kK.tr {a b c : XI} (h : kK a b) (h2 : kK b c) : kK a c := fun q k hq => (h2 q k hq).trans (h q k hq)
theorem kK.up {im im0 : XI} {a i : Nat} {v : Int32} (h : kK im0 im) (hg : 1 ≤ a ∧ a ≤ 32) : kK im0 (xup im a i v) := by
  intro q k hq
  rw [xup_o (fun e => hq (by rw [e]; exact hg))]
  exact h q k hq
theorem kC.K {im im' : XI} (h : kC im im') : kK im im' := fun a k hk => h a k (fun hg => hk (by omega))

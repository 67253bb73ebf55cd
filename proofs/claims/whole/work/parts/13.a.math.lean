theorem rf_all {l : List (Nat × Nat × Nat)} {n : Nat} (h : l.all (fun e => Nat.blt e.1 n) = true) : ∀ i, n ≤ i → ∀ j, rfT l i j = none := by
  induction l with
  | nil => intro i hi j; rfl
  | cons e l ih =>
    intro i hi j
    rw [List.all_cons, Bool.and_eq_true] at h
    have h1 : e.1 < n := Nat.blt_eq.mp h.1
    show (if i = e.1 ∧ j = e.2.1 then _ else rfT l i j) = none
    rw [if_neg (by omega)]
    exact ih h.2 i hi j
theorem rf_allj {l : List (Nat × Nat × Nat)} {n : Nat} (h : l.all (fun e => Nat.blt e.2.1 n) = true) : ∀ i j, n ≤ j → rfT l i j = none := by
  induction l with
  | nil => intro i j hj; rfl
  | cons e l ih =>
    intro i j hj
    rw [List.all_cons, Bool.and_eq_true] at h
    have h1 : e.2.1 < n := Nat.blt_eq.mp h.1
    show (if i = e.1 ∧ j = e.2.1 then _ else rfT l i j) = none
    rw [if_neg (by omega)]
    exact ih h.2 i j hj
theorem SMr_none {a j : Nat} (h : 1 ≤ a ∨ 20 ≤ j) : SMr a j = none := by
  unfold SMr
  split
  · split <;> first | rfl | omega
  · rfl
theorem islR_none {b a j : Nat} (h : 14 ≤ a ∨ 6 ≤ j) : islR b a j = none := by
  unfold islR
  split <;> first | rfl | omega | (split <;> first | rfl | omega)
theorem SCr_hi (bo : Bool) (n j : Nat) : SCr bo (n + 77) j = none := by cases bo <;> rfl
theorem SCr_hi0 (n j : Nat) : SCr false (n + 50) j = none := rfl
theorem SCr_j (bo : Bool) (a n : Nat) (h : a < 77) : SCr bo a (n + 8) = none := by
  match a, h with
  | 0, _ => rfl
  | 1, _ => rfl
  | 2, _ => rfl
  | 3, _ => rfl
  | 4, _ => rfl
  | 5, _ => rfl
  | 6, _ => rfl
  | 7, _ => rfl
  | 8, _ => rfl
  | 9, _ => rfl
  | 10, _ => rfl
  | 11, _ => rfl
  | 12, _ => rfl
  | 13, _ => rfl
  | 14, _ => rfl
  | 15, _ => rfl
  | 16, _ => rfl
  | 17, _ => rfl
  | 18, _ => rfl
  | 19, _ => rfl
  | 20, _ => rfl
  | 21, _ => rfl
  | 22, _ => rfl
  | 23, _ => rfl
  | 24, _ => rfl
  | 25, _ => rfl
  | 26, _ => rfl
  | 27, _ => rfl
  | 28, _ => rfl
  | 29, _ => rfl
  | 30, _ => rfl
  | 31, _ => rfl
  | 32, _ => rfl
  | 33, _ => rfl
  | 34, _ => rfl
  | 35, _ => rfl
  | 36, _ => rfl
  | 37, _ => rfl
  | 38, _ => rfl
  | 39, _ => rfl
  | 40, _ => rfl
  | 41, _ => rfl
  | 42, _ => rfl
  | 43, _ => rfl
  | 44, _ => rfl
  | 45, _ => rfl
  | 46, _ => rfl
  | 47, _ => rfl
  | 48, _ => rfl
  | 49, _ => rfl
  | 50, _ => cases bo <;> rfl
  | 51, _ => cases bo <;> rfl
  | 52, _ => cases bo <;> rfl
  | 53, _ => cases bo <;> rfl
  | 54, _ => cases bo <;> rfl
  | 55, _ => cases bo <;> rfl
  | 56, _ => cases bo <;> rfl
  | 57, _ => cases bo <;> rfl
  | 58, _ => cases bo <;> rfl
  | 59, _ => cases bo <;> rfl
  | 60, _ => cases bo <;> rfl
  | 61, _ => cases bo <;> rfl
  | 62, _ => cases bo <;> rfl
  | 63, _ => cases bo <;> rfl
  | 64, _ => cases bo <;> rfl
  | 65, _ => cases bo <;> rfl
  | 66, _ => cases bo <;> rfl
  | 67, _ => cases bo <;> rfl
  | 68, _ => cases bo <;> rfl
  | 69, _ => cases bo <;> rfl
  | 70, _ => cases bo <;> rfl
  | 71, _ => cases bo <;> rfl
  | 72, _ => cases bo <;> rfl
  | 73, _ => cases bo <;> rfl
  | 74, _ => cases bo <;> rfl
  | 75, _ => cases bo <;> rfl
  | 76, _ => cases bo <;> rfl
  | k + 77, h => exact absurd h (by omega)
theorem SCr_none {bo : Bool} {a j : Nat} (h : 77 ≤ a ∨ 8 ≤ j ∨ (bo = false ∧ 50 ≤ a)) : SCr bo a j = none := by
  by_cases h1 : 77 ≤ a
  · obtain ⟨n, rfl⟩ : ∃ n, a = n + 77 := ⟨a - 77, by omega⟩
    exact SCr_hi bo n j
  · rcases h with h | h | ⟨h, h2⟩
    · exact absurd h h1
    · obtain ⟨n, rfl⟩ : ∃ n, j = n + 8 := ⟨j - 8, by omega⟩
      exact SCr_j bo a n (by omega)
    · subst h
      obtain ⟨n, rfl⟩ : ∃ n, a = n + 50 := ⟨a - 50, by omega⟩
      exact SCr_hi0 n j
theorem SCf_none {a j : Nat} (h : 50 ≤ a ∨ 8 ≤ j) : (SC false).2 a j = none := by
  rcases h with h | h
  · exact SCr_none (bo := false) (Or.inr (Or.inr ⟨rfl, h⟩))
  · exact SCr_none (bo := false) (Or.inr (Or.inl h))
theorem SCt_none {a j : Nat} (h : 77 ≤ a ∨ 8 ≤ j) : (SC true).2 a j = none := by
  rcases h with h | h
  · exact SCr_none (bo := true) (Or.inl h)
  · exact SCr_none (bo := true) (Or.inr (Or.inl h))
theorem fun2_ext {f g : Nat → Nat → Option Nat} (A J : Nat) (h : ∀ (a : Fin A) (j : Fin J), f a.1 j.1 = g a.1 j.1) (hf : ∀ a j, (A ≤ a ∨ J ≤ j) → f a j = none) (hg : ∀ a j, (A ≤ a ∨ J ≤ j) → g a j = none) : f = g := by
  funext a j
  by_cases c : a < A ∧ j < J
  · exact h ⟨a, c.1⟩ ⟨j, c.2⟩
  · rw [hf a j (by omega), hg a j (by omega)]
def w00 : Nat → Nat → Option Nat := fun _ _ => none
theorem wW_0 {K : List XK} {l : List (Nat × Nat × Nat)} : wW [] w00 K l = (K, rfT l) := by
  unfold wW
  refine Prod.ext rfl ?_
  funext a j
  show (if 0 ≤ a then (rfT l (a - 0) j).map (fun v => 0 + v) else none) = rfT l a j
  rw [if_pos (Nat.zero_le a), Nat.sub_zero]
  cases rfT l a j with
  | none => rfl
  | some v => show some (0 + v) = _; rw [Nat.zero_add]
theorem world_M : wW [] w00 ([.inl 10] ++ modK) (modl 0 1 ++ []) = SM := by
  rw [wW_0]
  refine Prod.ext rfl ?_
  refine fun2_ext 13 20 (by decide +kernel) (fun a j h => ?_) (fun a j h => SMr_none (by omega))
  rcases h with h | h
  · exact rf_all (n := 13) rfl a h j
  · exact rf_allj (n := 20) rfl a j h
theorem world_C : wW [] w00 ([.inl 9] ++ clsK) (clsl 0 1 ++ []) = SC false := by
  rw [wW_0]
  refine Prod.ext rfl ?_
  refine fun2_ext 50 8 (by decide +kernel) (fun a j h => ?_) (fun a j h => SCf_none h)
  rcases h with h | h
  · exact rf_all (n := 50) rfl a h j
  · exact rf_allj (n := 8) rfl a j h
theorem world_I : ((wW (SC false).1 (SC false).2 ([.inl 2] ++ isK) (isl 0 1 ++ [])).1, xur (wW (SC false).1 (SC false).2 ([.inl 2] ++ isK) (isl 0 1 ++ [])).2 0 6 (some 50)) = SC true := by
  refine Prod.ext rfl ?_
  refine fun2_ext 77 8 (by decide +kernel) (fun a j h => ?_) (fun a j h => SCt_none h)
  show (if a = 0 ∧ j = 6 then _ else if 50 ≤ a then (rfT (isl 0 1 ++ []) (a - 50) j).map _ else (SC false).2 a j) = none
  rw [if_neg (by omega)]
  by_cases c : 50 ≤ a
  · rw [if_pos c]
    rcases h with h | h
    · rw [rf_all (n := 27) (l := isl 0 1 ++ []) rfl (a - 50) (by omega) j]
      rfl
    · rw [rf_allj (n := 8) (l := isl 0 1 ++ []) rfl (a - 50) j h]
      rfl
  · rw [if_neg c]
    exact SCf_none (by omega)

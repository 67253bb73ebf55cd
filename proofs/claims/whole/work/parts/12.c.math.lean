theorem K_last {K : List XK} {k : XK} {m : Nat} (hm : K.length = m) : (K ++ [k])[m]? = some k := by subst hm; simp
theorem K_old {K : List XK} {k k' : XK} {a : Nat} (h : K[a]? = some k) : (K ++ [k'])[a]? = some k := by
  rw [List.getElem?_append_left (List.getElem?_eq_some_iff.mp h).1]
  exact h
theorem K_len {K : List XK} {k : XK} {m : Nat} (hm : K.length = m) : (K ++ [k]).length = m + 1 := by rw [List.length_append, hm]; rfl
theorem K_lt {K : List XK} {k : XK} {a m : Nat} (hm : K.length = m) (h : K[a]? = some k) : a < m := by rw [← hm]; exact (List.getElem?_eq_some_iff.mp h).1
theorem rf_s {l : List (Nat × Nat × Nat)} {m n : Nat} (h : ∀ i, m ≤ i → ∀ j, rfT l i j = none) (hn : m ≤ n) : ∀ i, n ≤ i → ∀ j, rfT l i j = none := fun i hi j => h i (by omega) j
theorem rf_c {l : List (Nat × Nat × Nat)} {m a k v : Nat} (h : ∀ i, m ≤ i → ∀ j, rfT l i j = none) (ha : a < m) : ∀ i, m ≤ i → ∀ j, rfT ((a, k, v) :: l) i j = none := by
  intro i hi j
  show (if i = a ∧ j = k then _ else rfT l i j) = none
  rw [if_neg (by omega)]
  exact h i hi j
theorem f_s {f : XI} {m n : Nat} (h : ∀ i, m ≤ i → ∀ j, f i j = 0) (hn : m ≤ n) : ∀ i, n ≤ i → ∀ j, f i j = 0 := fun i hi j => h i (by omega) j
theorem f_u {f : XI} {m a k : Nat} {v : Int32} (h : ∀ i, m ≤ i → ∀ j, f i j = 0) (ha : a < m) : ∀ i, m ≤ i → ∀ j, (xup f a k v) i j = 0 := by
  intro i hi j
  rw [xup_o (by omega)]
  exact h i hi j
theorem rf_at {l : List (Nat × Nat × Nat)} {a j v : Nat} : rfT ((a, j, v) :: l) a j = some v := by
  show (if a = a ∧ j = j then some v else _) = _
  rw [if_pos ⟨rfl, rfl⟩]
theorem rf_n {l : List (Nat × Nat × Nat)} {a j v a1 k1 v1 : Nat} (h : rfT l a j = some v) (hne : ¬ (a = a1 ∧ j = k1)) : rfT ((a1, k1, v1) :: l) a j = some v := by
  show (if a = a1 ∧ j = k1 then some v1 else rfT l a j) = _
  rw [if_neg hne]
  exact h

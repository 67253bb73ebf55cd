theorem isl_no {l : List (Nat × Nat × Nat)} {a m : Nat} (ha : a < m) (h : ∀ i, m ≤ i → ∀ j, rfT l i j = none) : ∀ i, m + 26 ≤ i → ∀ j, rfT (isl a m ++ l) i j = none := rf_c (rf_c (rf_c (rf_c (rf_c (rf_c (rf_c (rf_c (rf_c (rf_c (rf_c (rf_c (rf_c (rf_c (rf_c (rf_c (rf_c (rf_c (rf_c (rf_c (rf_c (rf_c (rf_c (rf_c (rf_c (rf_c (rf_s h (by omega)) (by omega)) (by omega)) (by omega)) (by omega)) (by omega)) (by omega)) (by omega)) (by omega)) (by omega)) (by omega)) (by omega)) (by omega)) (by omega)) (by omega)) (by omega)) (by omega)) (by omega)) (by omega)) (by omega)) (by omega)) (by omega)) (by omega)) (by omega)) (by omega)) (by omega)) (by omega)
theorem isl_old {l : List (Nat × Nat × Nat)} {a m i j v : Nat} (ha : a < m) (hi : i < a) (h : rfT l i j = some v) : rfT (isl a m ++ l) i j = some v := rf_n (rf_n (rf_n (rf_n (rf_n (rf_n (rf_n (rf_n (rf_n (rf_n (rf_n (rf_n (rf_n (rf_n (rf_n (rf_n (rf_n (rf_n (rf_n (rf_n (rf_n (rf_n (rf_n (rf_n (rf_n (rf_n (h) (by omega)) (by omega)) (by omega)) (by omega)) (by omega)) (by omega)) (by omega)) (by omega)) (by omega)) (by omega)) (by omega)) (by omega)) (by omega)) (by omega)) (by omega)) (by omega)) (by omega)) (by omega)) (by omega)) (by omega)) (by omega)) (by omega)) (by omega)) (by omega)) (by omega)) (by omega)
theorem isl_tape {l : List (Nat × Nat × Nat)} {a m : Nat} (ha : a < m) : rfT (isl a m ++ l) a 4 = some (m + 10) := rf_n (rf_n (rf_n (rf_n (rf_n (rf_n (rf_n (rf_n (rf_n (rf_n (rf_n (rf_n (rf_n (rf_n (rf_at) (by omega)) (by omega)) (by omega)) (by omega)) (by omega)) (by omega)) (by omega)) (by omega)) (by omega)) (by omega)) (by omega)) (by omega)) (by omega)) (by omega)
theorem isF_no {f : XI} {a m : Nat} (ha : a < m) (h : ∀ i, m ≤ i → ∀ j, f i j = 0) : ∀ i, m + 26 ≤ i → ∀ j, (isF f a m) i j = 0 := f_u (f_u (f_u (f_u (f_u (f_u (f_u (f_u (f_u (f_s h (by omega)) (by omega)) (by omega)) (by omega)) (by omega)) (by omega)) (by omega)) (by omega)) (by omega)) (by omega)
theorem K_all {K X : List XK} {m n : Nat} (hm : K.length = m) (hX : X.length = n) : (K ++ X).length = m + n := by rw [List.length_append, hm, hX]
theorem s9_4 {d : Nat} {b : Nat × Nat} {Q : Option Value → XS → XI → Prop} {ks : List XK} {R0 : Nat → Nat → Option Nat} {I0 : XI} {K : List XK} {l : List (Nat × Nat × Nat)} {f : XI} {a m : Nat} {b1 : Nat × Nat}  (hk : K[a]? = some (.inl 9)) (hm : K.length = m) (hl : ∀ i, m ≤ i → ∀ j, rfT l i j = none) (hf : ∀ i, m ≤ i → ∀ j, f i j = 0) (hb : 27 + b1.1 ≤ b.1 ∧ 404 + b1.2 ≤ b.2) (k : ∀ (K' : List XK) (l' : List (Nat × Nat × Nat)), K' = K ++ [(.inl 2 : XK)] ++ isK → l' = (a, 0, m) :: (isl m (m + 1) ++ l) → K'.length = m + 27 → (∀ i, m + 27 ≤ i → ∀ j, rfT l' i j = none) → (∀ i, m + 27 ≤ i → ∀ j, (isF f m (m + 1)) i j = 0) → (∀ (i : Nat) (c : XK), K[i]? = some c → K'[i]? = some c) → (∀ i j v, i < m → ¬ (i = a ∧ j = 0) → rfT l i j = some v → rfT l' i j = some v) → V mX9_init (d + 4) b1 15 [some (.ref (ks.length + a)), none] [] (wW ks R0 K' l') (wI ks.length I0 (m + 27) (isF f m (m + 1))) Q) : V mX9_init (d + 4) b 4 [some (.ref (ks.length + a)), none] [] (wW ks R0 K l) (wI ks.length I0 m f) Q := by
  have ham := K_lt hm hk
  refine bX9_init_4 (b1 := (b1.1 + 26, b1.2 + 394)) (bc := (26, 394)) (be := b1) ⟨by show 1 + (b1.1 + 26) ≤ b.1; omega, by show 10 + (b1.2 + 394) ≤ b.2; omega⟩ (by
    rw [wW_push rfl hm (hl _ (Nat.le_refl _)), wW_len hm, wI_z (hf _ (Nat.le_refl _))]
    exact pX2_init (a := m) (m := m + 1) (K_last hm) (K_len hm) (rf_s hl (by omega)) (f_s hf (by omega))) ⟨by show 26 + b1.1 ≤ b1.1 + 26; omega, by show 394 + b1.2 ≤ b1.2 + 394; omega⟩ ?_ ?_
  · rintro _ _ ⟨rfl, rfl⟩
    rw [wW_push rfl hm (hl _ (Nat.le_refl _))]
    show (ks ++ _).length = (ks ++ _).length + _
    simp only [List.length_append, List.length_cons, List.length_nil]
    have e26 : isK.length = 26 := rfl
    try omega
  rintro _ _ ⟨rfl, rfl⟩
  rw [wW_len hm]
  refine bX9_init_12 (wW_get (K_app (K_old hk))) ?_
  rw [wW_ref]
  refine k _ _ rfl rfl ?_ ?_ ?_ ?_ ?_
  · exact (K_all (m := m + 1) (n := 26) (K_len hm) rfl).trans (by omega)
  · exact rf_c (isl_no (m := m + 1) (by omega) (rf_s hl (by omega))) (by omega)
  · exact isF_no (m := m + 1) (by omega) (f_s hf (by omega))
  · intro i c hi
    exact K_app (K_old hi)
  · intro i j v hi hne h
    exact rf_n (isl_old (by omega) hi h) hne
theorem s9_15 {d : Nat} {b : Nat × Nat} {Q : Option Value → XS → XI → Prop} {ks : List XK} {R0 : Nat → Nat → Option Nat} {I0 : XI} {K : List XK} {l : List (Nat × Nat × Nat)} {f : XI} {a m : Nat} {b1 : Nat × Nat} {A T : Nat} (hk : K[a]? = some (.inl 9)) (hA : K[A]? = some (.inl 2)) (hv : rfT l a 0 = some A) (hv4 : rfT l A 4 = some T) (hm : K.length = m) (hl : ∀ i, m ≤ i → ∀ j, rfT l i j = none) (hf : ∀ i, m ≤ i → ∀ j, f i j = 0) (hb : 3 + b1.1 ≤ b.1 ∧ 66 + b1.2 ≤ b.2) (k : ∀ (K' : List XK) (l' : List (Nat × Nat × Nat)), K' = K ++ [(.inl 5 : XK)] ++ [(.inl 6 : XK)] ++ [(.inr (.inl 60) : XK)] → l' = (a, 1, m) :: (m, 0, T) :: (m, 1, m + 1) :: (m + 1, 0, m + 2) :: l → K'.length = m + 3 → (∀ i, m + 3 ≤ i → ∀ j, rfT l' i j = none) → (∀ i, m + 3 ≤ i → ∀ j, f i j = 0) → (∀ (i : Nat) (c : XK), K[i]? = some c → K'[i]? = some c) → (∀ i j v, i < m → ¬ (i = a ∧ j = 1) → rfT l i j = some v → rfT l' i j = some v) → V mX9_init (d + 4) b1 33 [some (.ref (ks.length + a)), none] [] (wW ks R0 K' l') (wI ks.length I0 (m + 3) f) Q) : V mX9_init (d + 4) b 15 [some (.ref (ks.length + a)), none] [] (wW ks R0 K l) (wI ks.length I0 m f) Q := by
  have ham := K_lt hm hk
  refine bX9_init_15 (b1 := (b1.1 + 2, b1.2 + 62)) (bc := (2, 62)) (be := b1) ⟨by show 1 + (b1.1 + 2) ≤ b.1; omega, by show 4 + (b1.2 + 62) ≤ b.2; omega⟩ (by rw [wW_push rfl hm (hl _ (Nat.le_refl _))]; exact wW_get (K_old hk)) (by rw [wW_push rfl hm (hl _ (Nat.le_refl _))]; exact wW_val hv) (by rw [wW_push rfl hm (hl _ (Nat.le_refl _))]; exact wW_get (K_old hA)) (by rw [wW_push rfl hm (hl _ (Nat.le_refl _))]; exact wW_val hv4) (by
    rw [wW_push rfl hm (hl _ (Nat.le_refl _)), wW_len hm, wI_z (hf _ (Nat.le_refl _))]
    exact pX5_init (a := m) (m := m + 1) (t := T) (K_last hm) (K_len hm) (rf_s hl (by omega)) (f_s hf (by omega))) ⟨by show 2 + b1.1 ≤ b1.1 + 2; omega, by show 62 + b1.2 ≤ b1.2 + 62; omega⟩ ?_ ?_
  · rintro _ _ ⟨rfl, rfl⟩
    rw [wW_push rfl hm (hl _ (Nat.le_refl _))]
    show (ks ++ _).length = (ks ++ _).length + _
    simp only [List.length_append, List.length_cons, List.length_nil]
    have e26 : isK.length = 26 := rfl
    try omega
  rintro _ _ ⟨rfl, rfl⟩
  rw [wW_len hm]
  refine bX9_init_30 (wW_get (K_old (K_old (K_old hk)))) ?_
  rw [wW_ref]
  refine k _ _ rfl rfl ?_ ?_ ?_ ?_ ?_
  · exact K_len (K_len (K_len hm))
  · exact rf_c (rf_c (rf_c (rf_c (rf_s hl (by omega)) (by omega)) (by omega)) (by omega)) (by omega)
  · exact f_s hf (by omega)
  · intro i c hi
    exact K_old (K_old (K_old hi))
  · intro i j v hi hne h
    exact rf_n (rf_n (rf_n (rf_n h (by omega)) (by omega)) (by omega)) hne
theorem s9_33 {d : Nat} {b : Nat × Nat} {Q : Option Value → XS → XI → Prop} {ks : List XK} {R0 : Nat → Nat → Option Nat} {I0 : XI} {K : List XK} {l : List (Nat × Nat × Nat)} {f : XI} {a m : Nat} {b1 : Nat × Nat} {A : Nat} (hk : K[a]? = some (.inl 9)) (hv : rfT l a 0 = some A) (hm : K.length = m) (hl : ∀ i, m ≤ i → ∀ j, rfT l i j = none) (hf : ∀ i, m ≤ i → ∀ j, f i j = 0) (hb : 2 + b1.1 ≤ b.1 ∧ 105 + b1.2 ≤ b.2) (k : ∀ (K' : List XK) (l' : List (Nat × Nat × Nat)), K' = K ++ [(.inl 1 : XK)] ++ [(.inr (.inl 99) : XK)] → l' = (a, 2, m) :: (m, 0, A) :: (m, 1, m + 1) :: l → K'.length = m + 2 → (∀ i, m + 2 ≤ i → ∀ j, rfT l' i j = none) → (∀ i, m + 2 ≤ i → ∀ j, f i j = 0) → (∀ (i : Nat) (c : XK), K[i]? = some c → K'[i]? = some c) → (∀ i j v, i < m → ¬ (i = a ∧ j = 2) → rfT l i j = some v → rfT l' i j = some v) → V mX9_init (d + 4) b1 48 [some (.ref (ks.length + a)), none] [] (wW ks R0 K' l') (wI ks.length I0 (m + 2) f) Q) : V mX9_init (d + 4) b 33 [some (.ref (ks.length + a)), none] [] (wW ks R0 K l) (wI ks.length I0 m f) Q := by
  have ham := K_lt hm hk
  refine bX9_init_33 (b1 := (b1.1 + 1, b1.2 + 99)) (bc := (1, 99)) (be := b1) ⟨by show 1 + (b1.1 + 1) ≤ b.1; omega, by show 6 + (b1.2 + 99) ≤ b.2; omega⟩ (by rw [wW_push rfl hm (hl _ (Nat.le_refl _))]; exact wW_get (K_old hk)) (by rw [wW_push rfl hm (hl _ (Nat.le_refl _))]; exact wW_val hv) (by
    rw [wW_push rfl hm (hl _ (Nat.le_refl _)), wW_len hm, wI_z (hf _ (Nat.le_refl _))]
    exact pX1_init (a := m) (m := m + 1) (t := A) (K_last hm) (K_len hm) (rf_s hl (by omega)) (f_s hf (by omega))) ⟨by show 1 + b1.1 ≤ b1.1 + 1; omega, by show 99 + b1.2 ≤ b1.2 + 99; omega⟩ ?_ ?_
  · rintro _ _ ⟨rfl, rfl⟩
    rw [wW_push rfl hm (hl _ (Nat.le_refl _))]
    show (ks ++ _).length = (ks ++ _).length + _
    simp only [List.length_append, List.length_cons, List.length_nil]
    have e26 : isK.length = 26 := rfl
    try omega
  rintro _ _ ⟨rfl, rfl⟩
  rw [wW_len hm]
  refine bX9_init_45 (wW_get (K_old (K_old hk))) ?_
  rw [wW_ref]
  refine k _ _ rfl rfl ?_ ?_ ?_ ?_ ?_
  · exact K_len (K_len hm)
  · exact rf_c (rf_c (rf_c (rf_s hl (by omega)) (by omega)) (by omega)) (by omega)
  · exact f_s hf (by omega)
  · intro i c hi
    exact K_old (K_old hi)
  · intro i j v hi hne h
    exact rf_n (rf_n (rf_n h (by omega)) (by omega)) hne
theorem s9_48 {d : Nat} {b : Nat × Nat} {Q : Option Value → XS → XI → Prop} {ks : List XK} {R0 : Nat → Nat → Option Nat} {I0 : XI} {K : List XK} {l : List (Nat × Nat × Nat)} {f : XI} {a m : Nat} {b1 : Nat × Nat}  (hk : K[a]? = some (.inl 9)) (hm : K.length = m) (hl : ∀ i, m ≤ i → ∀ j, rfT l i j = none) (hf : ∀ i, m ≤ i → ∀ j, f i j = 0) (hb : 3 + b1.1 ≤ b.1 ∧ 37 + b1.2 ≤ b.2) (k : ∀ (K' : List XK) (l' : List (Nat × Nat × Nat)), K' = K ++ [(.inl 8 : XK)] ++ [(.inl 6 : XK)] ++ [(.inr (.inl 30) : XK)] → l' = (a, 3, m) :: (m, 0, m + 1) :: (m + 1, 0, m + 2) :: l → K'.length = m + 3 → (∀ i, m + 3 ≤ i → ∀ j, rfT l' i j = none) → (∀ i, m + 3 ≤ i → ∀ j, f i j = 0) → (∀ (i : Nat) (c : XK), K[i]? = some c → K'[i]? = some c) → (∀ i j v, i < m → ¬ (i = a ∧ j = 3) → rfT l i j = some v → rfT l' i j = some v) → V mX9_init (d + 4) b1 59 [some (.ref (ks.length + a)), none] [] (wW ks R0 K' l') (wI ks.length I0 (m + 3) f) Q) : V mX9_init (d + 4) b 48 [some (.ref (ks.length + a)), none] [] (wW ks R0 K l) (wI ks.length I0 m f) Q := by
  have ham := K_lt hm hk
  refine bX9_init_48 (b1 := (b1.1 + 2, b1.2 + 32)) (bc := (2, 32)) (be := b1) ⟨by show 1 + (b1.1 + 2) ≤ b.1; omega, by show 5 + (b1.2 + 32) ≤ b.2; omega⟩ (by
    rw [wW_push rfl hm (hl _ (Nat.le_refl _)), wW_len hm, wI_z (hf _ (Nat.le_refl _))]
    exact pX8_init (a := m) (m := m + 1) (K_last hm) (K_len hm) (rf_s hl (by omega)) (f_s hf (by omega))) ⟨by show 2 + b1.1 ≤ b1.1 + 2; omega, by show 32 + b1.2 ≤ b1.2 + 32; omega⟩ ?_ ?_
  · rintro _ _ ⟨rfl, rfl⟩
    rw [wW_push rfl hm (hl _ (Nat.le_refl _))]
    show (ks ++ _).length = (ks ++ _).length + _
    simp only [List.length_append, List.length_cons, List.length_nil]
    have e26 : isK.length = 26 := rfl
    try omega
  rintro _ _ ⟨rfl, rfl⟩
  rw [wW_len hm]
  refine bX9_init_56 (wW_get (K_old (K_old (K_old hk)))) ?_
  rw [wW_ref]
  refine k _ _ rfl rfl ?_ ?_ ?_ ?_ ?_
  · exact K_len (K_len (K_len hm))
  · exact rf_c (rf_c (rf_c (rf_s hl (by omega)) (by omega)) (by omega)) (by omega)
  · exact f_s hf (by omega)
  · intro i c hi
    exact K_old (K_old (K_old hi))
  · intro i j v hi hne h
    exact rf_n (rf_n (rf_n h (by omega)) (by omega)) hne
theorem s9_59 {d : Nat} {b : Nat × Nat} {Q : Option Value → XS → XI → Prop} {ks : List XK} {R0 : Nat → Nat → Option Nat} {I0 : XI} {K : List XK} {l : List (Nat × Nat × Nat)} {f : XI} {a m : Nat} {b1 : Nat × Nat}  (hk : K[a]? = some (.inl 9)) (hm : K.length = m) (hl : ∀ i, m ≤ i → ∀ j, rfT l i j = none) (hf : ∀ i, m ≤ i → ∀ j, f i j = 0) (hb : 1 + b1.1 ≤ b.1 ∧ 4 + b1.2 ≤ b.2) (k : ∀ (K' : List XK) (l' : List (Nat × Nat × Nat)), K' = K ++ [(.inr (.inr (2, 4)) : XK)] → l' = (a, 4, m) :: l → K'.length = m + 1 → (∀ i, m + 1 ≤ i → ∀ j, rfT l' i j = none) → (∀ i, m + 1 ≤ i → ∀ j, f i j = 0) → (∀ (i : Nat) (c : XK), K[i]? = some c → K'[i]? = some c) → (∀ i j v, i < m → ¬ (i = a ∧ j = 4) → rfT l i j = some v → rfT l' i j = some v) → V mX9_init (d + 4) b1 67 [some (.ref (ks.length + a)), none] [] (wW ks R0 K' l') (wI ks.length I0 (m + 1) f) Q) : V mX9_init (d + 4) b 59 [some (.ref (ks.length + a)), none] [] (wW ks R0 K l) (wI ks.length I0 m f) Q := by
  have ham := K_lt hm hk
  refine bX9_init_59 (b1 := b1) hb (by rw [wW_push rfl hm (hl _ (Nat.le_refl _))]; exact wW_get (K_old hk)) ?_
  rw [wW_pr rfl hm (hl _ (Nat.le_refl _)), wW_len hm, wI_z (hf _ (Nat.le_refl _))]
  refine k _ _ rfl rfl ?_ ?_ ?_ ?_ ?_
  · exact K_len hm
  · exact rf_c (rf_s hl (by omega)) (by omega)
  · exact f_s hf (by omega)
  · intro i c hi
    exact K_old hi
  · intro i j v hi hne h
    exact rf_n h hne
theorem s9_67 {d : Nat} {b : Nat × Nat} {Q : Option Value → XS → XI → Prop} {ks : List XK} {R0 : Nat → Nat → Option Nat} {I0 : XI} {K : List XK} {l : List (Nat × Nat × Nat)} {f : XI} {a m : Nat} {b1 : Nat × Nat}  (hk : K[a]? = some (.inl 9)) (hm : K.length = m) (hl : ∀ i, m ≤ i → ∀ j, rfT l i j = none) (hf : ∀ i, m ≤ i → ∀ j, f i j = 0) (hb : 1 + b1.1 ≤ b.1 ∧ 7 + b1.2 ≤ b.2) (k : ∀ (K' : List XK) (l' : List (Nat × Nat × Nat)), K' = K ++ [(.inr (.inl 7) : XK)] → l' = (a, 5, m) :: l → K'.length = m + 1 → (∀ i, m + 1 ≤ i → ∀ j, rfT l' i j = none) → (∀ i, m + 1 ≤ i → ∀ j, f i j = 0) → (∀ (i : Nat) (c : XK), K[i]? = some c → K'[i]? = some c) → (∀ i j v, i < m → ¬ (i = a ∧ j = 5) → rfT l i j = some v → rfT l' i j = some v) → V mX9_init (d + 4) b1 75 [some (.ref (ks.length + a)), none] [] (wW ks R0 K' l') (wI ks.length I0 (m + 1) f) Q) : V mX9_init (d + 4) b 67 [some (.ref (ks.length + a)), none] [] (wW ks R0 K l) (wI ks.length I0 m f) Q := by
  have ham := K_lt hm hk
  refine bX9_init_67 (b1 := b1) hb (by rw [wW_push rfl hm (hl _ (Nat.le_refl _))]; exact wW_get (K_old hk)) ?_
  rw [wW_pr rfl hm (hl _ (Nat.le_refl _)), wW_len hm, wI_z (hf _ (Nat.le_refl _))]
  refine k _ _ rfl rfl ?_ ?_ ?_ ?_ ?_
  · exact K_len hm
  · exact rf_c (rf_s hl (by omega)) (by omega)
  · exact f_s hf (by omega)
  · intro i c hi
    exact K_old hi
  · intro i j v hi hne h
    exact rf_n h hne
theorem s9_77 {d : Nat} {b : Nat × Nat} {Q : Option Value → XS → XI → Prop} {ks : List XK} {R0 : Nat → Nat → Option Nat} {I0 : XI} {K : List XK} {l : List (Nat × Nat × Nat)} {f : XI} {a m : Nat} {b1 : Nat × Nat} {q A : Nat} (hk : K[a]? = some (.inl 9)) (hq : q < 4) (hA : K[A]? = some (.inr (.inr (2, 4)))) (hv : rfT l a 4 = some A) (hm : K.length = m) (hl : ∀ i, m ≤ i → ∀ j, rfT l i j = none) (hf : ∀ i, m ≤ i → ∀ j, f i j = 0) (hb : 3 + b1.1 ≤ b.1 ∧ 28 + b1.2 ≤ b.2) (k : ∀ (K' : List XK) (l' : List (Nat × Nat × Nat)), K' = K ++ [(.inl 7 : XK)] ++ [(.inl 6 : XK)] ++ [(.inr (.inl 24) : XK)] → l' = (A, q, m) :: (m, 0, m + 1) :: (m + 1, 0, m + 2) :: l → K'.length = m + 3 → (∀ i, m + 3 ≤ i → ∀ j, rfT l' i j = none) → (∀ i, m + 3 ≤ i → ∀ j, f i j = 0) → (∀ (i : Nat) (c : XK), K[i]? = some c → K'[i]? = some c) → (∀ i j v, i < m → ¬ (i = A ∧ j = q) → rfT l i j = some v → rfT l' i j = some v) → V mX9_init (d + 4) b1 77 [some (.ref (ks.length + a)), some (.int (nI (q + 1)))] [] (wW ks R0 K' l') (wI ks.length I0 (m + 3) f) Q) : V mX9_init (d + 4) b 77 [some (.ref (ks.length + a)), some (.int (nI q))] [] (wW ks R0 K l) (wI ks.length I0 m f) Q := by
  have ham := K_lt hm hk
  have hAm := K_lt hm hA
  refine bX9_init_77 (fun c => absurd (ge_i (a := 4) (by omega) (by omega) c) (by omega)) (fun _ => ?_)
  refine bX9_init_82 (b1 := (b1.1 + 2, b1.2 + 26)) (bc := (2, 26)) (be := b1) (wW_get hk) (wW_val hv) ⟨by show 1 + (b1.1 + 2) ≤ b.1; omega, by show 2 + (b1.2 + 26) ≤ b.2; omega⟩ (by
    rw [wW_push rfl hm (hl _ (Nat.le_refl _)), wW_len hm, wI_z (hf _ (Nat.le_refl _))]
    exact pX7_init (a := m) (m := m + 1) (K_last hm) (K_len hm) (rf_s hl (by omega)) (f_s hf (by omega))) ⟨by show 2 + b1.1 ≤ b1.1 + 2; omega, by show 26 + b1.2 ≤ b1.2 + 26; omega⟩ ?_ ?_
  · rintro _ _ ⟨rfl, rfl⟩
    rw [wW_push rfl hm (hl _ (Nat.le_refl _))]
    show (ks ++ _).length = (ks ++ _).length + _
    simp only [List.length_append, List.length_cons, List.length_nil]
    have e26 : isK.length = 26 := rfl
    try omega
  rintro _ _ ⟨rfl, rfl⟩
  rw [wW_len hm]
  refine bX9_init_94 (n1 := 4) (i2 := q) ⟨wW_get (K_old (K_old (K_old hA))), rfl, rfl⟩ rfl hq (wW_get (K_old (K_old (K_last hm)))) ?_
  rw [wW_ref]
  refine bX9_init_95 ?_
  rw [nI_1]
  refine k _ _ rfl rfl ?_ ?_ ?_ ?_ ?_
  · exact K_len (K_len (K_len hm))
  · exact rf_c (rf_c (rf_c (rf_s hl (by omega)) (by omega)) (by omega)) (by omega)
  · exact f_s hf (by omega)
  · intro i c hi
    exact K_old (K_old (K_old hi))
  · intro i j v hi hne h
    exact rf_n (rf_n (rf_n h (by omega)) (by omega)) hne

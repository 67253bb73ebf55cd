theorem sX2_4 {d : Nat} {b : Nat × Nat} {Q : Option Value → XS → XI → Prop} {ks : List XK} {R0 : Nat → Nat → Option Nat} {I0 : XI} {K : List XK} {l : List (Nat × Nat × Nat)} {f : XI} {a m : Nat} {b1 : Nat × Nat}  (hk : K[a]? = some (.inl 2)) (hm : K.length = m) (hl : ∀ i, m ≤ i → ∀ j, rfT l i j = none) (hf : ∀ i, m ≤ i → ∀ j, f i j = 0) (hb : 1 + b1.1 ≤ b.1 ∧ 6 + b1.2 ≤ b.2) (k : ∀ (K' : List XK) (l' : List (Nat × Nat × Nat)), K' = K ++ [(.inr (.inr (0, 6)) : XK)] → l' = (a, 0, m) :: l → K'.length = m + 1 → (∀ i, m + 1 ≤ i → ∀ j, rfT l' i j = none) → (∀ i, m + 1 ≤ i → ∀ j, f i j = 0) → (∀ (i : Nat) (c : XK), K[i]? = some c → K'[i]? = some c) → (∀ i j v, i < m → ¬ (i = a ∧ j = 0) → rfT l i j = some v → rfT l' i j = some v) → V mX2_init (d + 3) b1 13 [some (.ref (ks.length + a)), none] [] (wW ks R0 K' l') (wI ks.length I0 (m + 1) f) Q) : V mX2_init (d + 3) b 4 [some (.ref (ks.length + a)), none] [] (wW ks R0 K l) (wI ks.length I0 m f) Q := by
  have ham := K_lt hm hk
  refine bX2_init_4 (b1 := b1) hb (by rw [wW_push rfl hm (hl _ (Nat.le_refl _))]; exact wW_get (K_old hk)) ?_
  rw [wW_pr rfl hm (hl _ (Nat.le_refl _)), wW_len hm, wI_z (hf _ (Nat.le_refl _))]
  refine k _ _ rfl rfl ?_ ?_ ?_ ?_ ?_
  · exact K_len hm
  · exact rf_c (rf_s hl (by omega)) (by omega)
  · exact f_s hf (by omega)
  · intro i c hi
    exact K_old hi
  · intro i j v hi hne h
    exact rf_n h hne
theorem sX2_13 {d : Nat} {b : Nat × Nat} {Q : Option Value → XS → XI → Prop} {ks : List XK} {R0 : Nat → Nat → Option Nat} {I0 : XI} {K : List XK} {l : List (Nat × Nat × Nat)} {f : XI} {a m : Nat} {b1 : Nat × Nat}  (hk : K[a]? = some (.inl 2)) (hm : K.length = m) (hl : ∀ i, m ≤ i → ∀ j, rfT l i j = none) (hf : ∀ i, m ≤ i → ∀ j, f i j = 0) (hb : 1 + b1.1 ≤ b.1 ∧ 6 + b1.2 ≤ b.2) (k : ∀ (K' : List XK) (l' : List (Nat × Nat × Nat)), K' = K ++ [(.inr (.inr (1, 6)) : XK)] → l' = (a, 1, m) :: l → K'.length = m + 1 → (∀ i, m + 1 ≤ i → ∀ j, rfT l' i j = none) → (∀ i, m + 1 ≤ i → ∀ j, f i j = 0) → (∀ (i : Nat) (c : XK), K[i]? = some c → K'[i]? = some c) → (∀ i j v, i < m → ¬ (i = a ∧ j = 1) → rfT l i j = some v → rfT l' i j = some v) → V mX2_init (d + 3) b1 22 [some (.ref (ks.length + a)), none] [] (wW ks R0 K' l') (wI ks.length I0 (m + 1) f) Q) : V mX2_init (d + 3) b 13 [some (.ref (ks.length + a)), none] [] (wW ks R0 K l) (wI ks.length I0 m f) Q := by
  have ham := K_lt hm hk
  refine bX2_init_13 (b1 := b1) hb (by rw [wW_push rfl hm (hl _ (Nat.le_refl _))]; exact wW_get (K_old hk)) ?_
  rw [wW_pr rfl hm (hl _ (Nat.le_refl _)), wW_len hm, wI_z (hf _ (Nat.le_refl _))]
  refine k _ _ rfl rfl ?_ ?_ ?_ ?_ ?_
  · exact K_len hm
  · exact rf_c (rf_s hl (by omega)) (by omega)
  · exact f_s hf (by omega)
  · intro i c hi
    exact K_old hi
  · intro i j v hi hne h
    exact rf_n h hne
theorem sX2_22 {d : Nat} {b : Nat × Nat} {Q : Option Value → XS → XI → Prop} {ks : List XK} {R0 : Nat → Nat → Option Nat} {I0 : XI} {K : List XK} {l : List (Nat × Nat × Nat)} {f : XI} {a m : Nat} {b1 : Nat × Nat}  (hk : K[a]? = some (.inl 2)) (hm : K.length = m) (hl : ∀ i, m ≤ i → ∀ j, rfT l i j = none) (hf : ∀ i, m ≤ i → ∀ j, f i j = 0) (hb : 4 + b1.1 ≤ b.1 ∧ 126 + b1.2 ≤ b.2) (k : ∀ (K' : List XK) (l' : List (Nat × Nat × Nat)), K' = K ++ [(.inl 3 : XK)] ++ [(.inl 6 : XK)] ++ [(.inr (.inl 60) : XK)] ++ [(.inr (.inl 60) : XK)] → l' = (a, 2, m) :: (m, 2, m + 3) :: (m, 1, m + 1) :: (m + 1, 0, m + 2) :: l → K'.length = m + 4 → (∀ i, m + 4 ≤ i → ∀ j, rfT l' i j = none) → (∀ i, m + 4 ≤ i → ∀ j, (xup f m 0 0) i j = 0) → (∀ (i : Nat) (c : XK), K[i]? = some c → K'[i]? = some c) → (∀ i j v, i < m → ¬ (i = a ∧ j = 2) → rfT l i j = some v → rfT l' i j = some v) → V mX2_init (d + 3) b1 34 [some (.ref (ks.length + a)), none] [] (wW ks R0 K' l') (wI ks.length I0 (m + 4) (xup f m 0 0)) Q) : V mX2_init (d + 3) b 22 [some (.ref (ks.length + a)), none] [] (wW ks R0 K l) (wI ks.length I0 m f) Q := by
  have ham := K_lt hm hk
  refine bX2_init_22 (b1 := (b1.1 + 3, b1.2 + 122)) (bc := (3, 122)) (be := b1) ⟨by show 1 + (b1.1 + 3) ≤ b.1; omega, by show 4 + (b1.2 + 122) ≤ b.2; omega⟩ (by
    rw [wW_push rfl hm (hl _ (Nat.le_refl _)), wW_len hm, wI_z (hf _ (Nat.le_refl _))]
    exact pX3_init (a := m) (m := m + 1) (K_last hm) (K_len hm) (rf_s hl (by omega)) (f_s hf (by omega))) ⟨by show 3 + b1.1 ≤ b1.1 + 3; omega, by show 122 + b1.2 ≤ b1.2 + 122; omega⟩ ?_ ?_
  · rintro _ _ ⟨rfl, rfl⟩
    rw [wW_push rfl hm (hl _ (Nat.le_refl _))]
    show (ks ++ _).length = (ks ++ _).length + _
    simp only [List.length_append, List.length_cons, List.length_nil]
    try omega
  rintro _ _ ⟨rfl, rfl⟩
  rw [wW_len hm]
  refine bX2_init_31 (wW_get (K_old (K_old (K_old (K_old hk))))) ?_
  rw [wW_ref]
  refine k _ _ rfl rfl ?_ ?_ ?_ ?_ ?_
  · exact K_len (K_len (K_len (K_len hm)))
  · exact rf_c (rf_c (rf_c (rf_c (rf_s hl (by omega)) (by omega)) (by omega)) (by omega)) (by omega)
  · exact f_u (f_s hf (by omega)) (by omega)
  · intro i c hi
    exact K_old (K_old (K_old (K_old hi)))
  · intro i j v hi hne h
    exact rf_n (rf_n (rf_n (rf_n h (by omega)) (by omega)) (by omega)) hne
theorem sX2_34 {d : Nat} {b : Nat × Nat} {Q : Option Value → XS → XI → Prop} {ks : List XK} {R0 : Nat → Nat → Option Nat} {I0 : XI} {K : List XK} {l : List (Nat × Nat × Nat)} {f : XI} {a m : Nat} {b1 : Nat × Nat}  (hk : K[a]? = some (.inl 2)) (hm : K.length = m) (hl : ∀ i, m ≤ i → ∀ j, rfT l i j = none) (hf : ∀ i, m ≤ i → ∀ j, f i j = 0) (hb : 4 + b1.1 ≤ b.1 ∧ 126 + b1.2 ≤ b.2) (k : ∀ (K' : List XK) (l' : List (Nat × Nat × Nat)), K' = K ++ [(.inl 3 : XK)] ++ [(.inl 6 : XK)] ++ [(.inr (.inl 60) : XK)] ++ [(.inr (.inl 60) : XK)] → l' = (a, 3, m) :: (m, 2, m + 3) :: (m, 1, m + 1) :: (m + 1, 0, m + 2) :: l → K'.length = m + 4 → (∀ i, m + 4 ≤ i → ∀ j, rfT l' i j = none) → (∀ i, m + 4 ≤ i → ∀ j, (xup f m 0 1) i j = 0) → (∀ (i : Nat) (c : XK), K[i]? = some c → K'[i]? = some c) → (∀ i j v, i < m → ¬ (i = a ∧ j = 3) → rfT l i j = some v → rfT l' i j = some v) → V mX2_init (d + 3) b1 46 [some (.ref (ks.length + a)), none] [] (wW ks R0 K' l') (wI ks.length I0 (m + 4) (xup f m 0 1)) Q) : V mX2_init (d + 3) b 34 [some (.ref (ks.length + a)), none] [] (wW ks R0 K l) (wI ks.length I0 m f) Q := by
  have ham := K_lt hm hk
  refine bX2_init_34 (b1 := (b1.1 + 3, b1.2 + 122)) (bc := (3, 122)) (be := b1) ⟨by show 1 + (b1.1 + 3) ≤ b.1; omega, by show 4 + (b1.2 + 122) ≤ b.2; omega⟩ (by
    rw [wW_push rfl hm (hl _ (Nat.le_refl _)), wW_len hm, wI_z (hf _ (Nat.le_refl _))]
    exact pX3_init (a := m) (m := m + 1) (K_last hm) (K_len hm) (rf_s hl (by omega)) (f_s hf (by omega))) ⟨by show 3 + b1.1 ≤ b1.1 + 3; omega, by show 122 + b1.2 ≤ b1.2 + 122; omega⟩ ?_ ?_
  · rintro _ _ ⟨rfl, rfl⟩
    rw [wW_push rfl hm (hl _ (Nat.le_refl _))]
    show (ks ++ _).length = (ks ++ _).length + _
    simp only [List.length_append, List.length_cons, List.length_nil]
    try omega
  rintro _ _ ⟨rfl, rfl⟩
  rw [wW_len hm]
  refine bX2_init_43 (wW_get (K_old (K_old (K_old (K_old hk))))) ?_
  rw [wW_ref]
  refine k _ _ rfl rfl ?_ ?_ ?_ ?_ ?_
  · exact K_len (K_len (K_len (K_len hm)))
  · exact rf_c (rf_c (rf_c (rf_c (rf_s hl (by omega)) (by omega)) (by omega)) (by omega)) (by omega)
  · exact f_u (f_s hf (by omega)) (by omega)
  · intro i c hi
    exact K_old (K_old (K_old (K_old hi)))
  · intro i j v hi hne h
    exact rf_n (rf_n (rf_n (rf_n h (by omega)) (by omega)) (by omega)) hne
theorem sX2_46 {d : Nat} {b : Nat × Nat} {Q : Option Value → XS → XI → Prop} {ks : List XK} {R0 : Nat → Nat → Option Nat} {I0 : XI} {K : List XK} {l : List (Nat × Nat × Nat)} {f : XI} {a m : Nat} {b1 : Nat × Nat}  (hk : K[a]? = some (.inl 2)) (hm : K.length = m) (hl : ∀ i, m ≤ i → ∀ j, rfT l i j = none) (hf : ∀ i, m ≤ i → ∀ j, f i j = 0) (hb : 2 + b1.1 ≤ b.1 ∧ 62 + b1.2 ≤ b.2) (k : ∀ (K' : List XK) (l' : List (Nat × Nat × Nat)), K' = K ++ [(.inl 6 : XK)] ++ [(.inr (.inl 60) : XK)] → l' = (a, 4, m) :: (m, 0, m + 1) :: l → K'.length = m + 2 → (∀ i, m + 2 ≤ i → ∀ j, rfT l' i j = none) → (∀ i, m + 2 ≤ i → ∀ j, f i j = 0) → (∀ (i : Nat) (c : XK), K[i]? = some c → K'[i]? = some c) → (∀ i j v, i < m → ¬ (i = a ∧ j = 4) → rfT l i j = some v → rfT l' i j = some v) → V mX2_init (d + 3) b1 59 [some (.ref (ks.length + a)), none] [] (wW ks R0 K' l') (wI ks.length I0 (m + 2) f) Q) : V mX2_init (d + 3) b 46 [some (.ref (ks.length + a)), none] [] (wW ks R0 K l) (wI ks.length I0 m f) Q := by
  have ham := K_lt hm hk
  refine bX2_init_46 (b1 := (b1.1 + 1, b1.2 + 60)) (bc := (1, 60)) (be := b1) ⟨by show 1 + (b1.1 + 1) ≤ b.1; omega, by show 2 + (b1.2 + 60) ≤ b.2; omega⟩ (by
    rw [wW_push rfl hm (hl _ (Nat.le_refl _)), wW_len hm, wI_z (hf _ (Nat.le_refl _))]
    exact pX6_init (a := m) (m := m + 1) (n := 60) rfl (by omega) (K_last hm) (K_len hm) (rf_s hl (by omega)) (f_s hf (by omega))) ⟨by show 1 + b1.1 ≤ b1.1 + 1; omega, by show 60 + b1.2 ≤ b1.2 + 60; omega⟩ ?_ ?_
  · rintro _ _ ⟨rfl, rfl⟩
    rw [wW_push rfl hm (hl _ (Nat.le_refl _))]
    show (ks ++ _).length = (ks ++ _).length + _
    simp only [List.length_append, List.length_cons, List.length_nil]
    try omega
  rintro _ _ ⟨rfl, rfl⟩
  rw [wW_len hm]
  refine bX2_init_56 (wW_get (K_old (K_old hk))) ?_
  rw [wW_ref]
  refine k _ _ rfl rfl ?_ ?_ ?_ ?_ ?_
  · exact K_len (K_len hm)
  · exact rf_c (rf_c (rf_s hl (by omega)) (by omega)) (by omega)
  · exact f_s hf (by omega)
  · intro i c hi
    exact K_old (K_old hi)
  · intro i j v hi hne h
    exact rf_n (rf_n h (by omega)) hne
theorem sX2_59 {d : Nat} {b : Nat × Nat} {Q : Option Value → XS → XI → Prop} {ks : List XK} {R0 : Nat → Nat → Option Nat} {I0 : XI} {K : List XK} {l : List (Nat × Nat × Nat)} {f : XI} {a m : Nat} {b1 : Nat × Nat}  (hk : K[a]? = some (.inl 2)) (hm : K.length = m) (hl : ∀ i, m ≤ i → ∀ j, rfT l i j = none) (hf : ∀ i, m ≤ i → ∀ j, f i j = 0) (hb : 2 + b1.1 ≤ b.1 ∧ 26 + b1.2 ≤ b.2) (k : ∀ (K' : List XK) (l' : List (Nat × Nat × Nat)), K' = K ++ [(.inl 6 : XK)] ++ [(.inr (.inl 24) : XK)] → l' = (a, 5, m) :: (m, 0, m + 1) :: l → K'.length = m + 2 → (∀ i, m + 2 ≤ i → ∀ j, rfT l' i j = none) → (∀ i, m + 2 ≤ i → ∀ j, f i j = 0) → (∀ (i : Nat) (c : XK), K[i]? = some c → K'[i]? = some c) → (∀ i j v, i < m → ¬ (i = a ∧ j = 5) → rfT l i j = some v → rfT l' i j = some v) → V mX2_init (d + 3) b1 72 [some (.ref (ks.length + a)), none] [] (wW ks R0 K' l') (wI ks.length I0 (m + 2) f) Q) : V mX2_init (d + 3) b 59 [some (.ref (ks.length + a)), none] [] (wW ks R0 K l) (wI ks.length I0 m f) Q := by
  have ham := K_lt hm hk
  refine bX2_init_59 (b1 := (b1.1 + 1, b1.2 + 24)) (bc := (1, 24)) (be := b1) ⟨by show 1 + (b1.1 + 1) ≤ b.1; omega, by show 2 + (b1.2 + 24) ≤ b.2; omega⟩ (by
    rw [wW_push rfl hm (hl _ (Nat.le_refl _)), wW_len hm, wI_z (hf _ (Nat.le_refl _))]
    exact pX6_init (a := m) (m := m + 1) (n := 24) rfl (by omega) (K_last hm) (K_len hm) (rf_s hl (by omega)) (f_s hf (by omega))) ⟨by show 1 + b1.1 ≤ b1.1 + 1; omega, by show 24 + b1.2 ≤ b1.2 + 24; omega⟩ ?_ ?_
  · rintro _ _ ⟨rfl, rfl⟩
    rw [wW_push rfl hm (hl _ (Nat.le_refl _))]
    show (ks ++ _).length = (ks ++ _).length + _
    simp only [List.length_append, List.length_cons, List.length_nil]
    try omega
  rintro _ _ ⟨rfl, rfl⟩
  rw [wW_len hm]
  refine bX2_init_69 (wW_get (K_old (K_old hk))) ?_
  rw [wW_ref]
  refine k _ _ rfl rfl ?_ ?_ ?_ ?_ ?_
  · exact K_len (K_len hm)
  · exact rf_c (rf_c (rf_s hl (by omega)) (by omega)) (by omega)
  · exact f_s hf (by omega)
  · intro i c hi
    exact K_old (K_old hi)
  · intro i j v hi hne h
    exact rf_n (rf_n h (by omega)) hne
theorem sX2_79 {d : Nat} {b : Nat × Nat} {Q : Option Value → XS → XI → Prop} {ks : List XK} {R0 : Nat → Nat → Option Nat} {I0 : XI} {K : List XK} {l : List (Nat × Nat × Nat)} {f : XI} {a m : Nat} {b1 : Nat × Nat} {q A : Nat} (hk : K[a]? = some (.inl 2)) (hq : q < 6) (hA : K[A]? = some (.inr (.inr (0, 6)))) (hv : rfT l a 0 = some A) (hm : K.length = m) (hl : ∀ i, m ≤ i → ∀ j, rfT l i j = none) (hf : ∀ i, m ≤ i → ∀ j, f i j = 0) (hb : 1 + b1.1 ≤ b.1 ∧ 4 + b1.2 ≤ b.2) (k : ∀ (K' : List XK) (l' : List (Nat × Nat × Nat)), K' = K ++ [(.inl 4 : XK)] → l' = (A, q, m) :: l → K'.length = m + 1 → (∀ i, m + 1 ≤ i → ∀ j, rfT l' i j = none) → (∀ i, m + 1 ≤ i → ∀ j, (xup f m 2 1) i j = 0) → (∀ (i : Nat) (c : XK), K[i]? = some c → K'[i]? = some c) → (∀ i j v, i < m → ¬ (i = A ∧ j = q) → rfT l i j = some v → rfT l' i j = some v) → V mX2_init (d + 3) b1 79 [some (.ref (ks.length + a)), some (.int (nI (q + 1)))] [] (wW ks R0 K' l') (wI ks.length I0 (m + 1) (xup f m 2 1)) Q) : V mX2_init (d + 3) b 79 [some (.ref (ks.length + a)), some (.int (nI q))] [] (wW ks R0 K l) (wI ks.length I0 m f) Q := by
  have ham := K_lt hm hk
  have hAm := K_lt hm hA
  refine bX2_init_79 (fun c => absurd (ge_i (a := 6) (by omega) (by omega) c) (by omega)) (fun _ => ?_)
  refine bX2_init_85 (b1 := b1) (bc := (0, 0)) (be := b1) (wW_get hk) (wW_val hv) hb (by
    rw [wW_push rfl hm (hl _ (Nat.le_refl _)), wW_len hm, wI_z (hf _ (Nat.le_refl _))]
    exact pX4_init (a := m) (m := m + 1) (K_last hm) (by omega)) ⟨by show 0 + b1.1 ≤ b1.1; omega, by show 0 + b1.2 ≤ b1.2; omega⟩ ?_ ?_
  · rintro _ _ ⟨rfl, rfl⟩
    rw [wW_push rfl hm (hl _ (Nat.le_refl _))]
    show (ks ++ _).length = (ks ++ _).length + _
    simp only [List.length_append, List.length_cons, List.length_nil]
    try omega
  rintro _ _ ⟨rfl, rfl⟩
  rw [wW_len hm]
  refine bX2_init_97 (n1 := 6) (i2 := q) ⟨wW_get (K_old hA), rfl, rfl⟩ rfl hq (wW_get (K_last hm)) ?_
  rw [wW_ref]
  refine bX2_init_98 ?_
  rw [nI_1]
  refine k _ _ rfl rfl ?_ ?_ ?_ ?_ ?_
  · exact K_len hm
  · exact rf_c (rf_s hl (by omega)) (by omega)
  · exact f_u (f_s hf (by omega)) (by omega)
  · intro i c hi
    exact K_old hi
  · intro i j v hi hne h
    exact rf_n h hne
theorem sX2_106 {d : Nat} {b : Nat × Nat} {Q : Option Value → XS → XI → Prop} {ks : List XK} {R0 : Nat → Nat → Option Nat} {I0 : XI} {K : List XK} {l : List (Nat × Nat × Nat)} {f : XI} {a m : Nat} {b1 : Nat × Nat} {q A : Nat} (hk : K[a]? = some (.inl 2)) (hq : q < 6) (hA : K[A]? = some (.inr (.inr (1, 6)))) (hv : rfT l a 1 = some A) (hm : K.length = m) (hl : ∀ i, m ≤ i → ∀ j, rfT l i j = none) (hf : ∀ i, m ≤ i → ∀ j, f i j = 0) (hb : 1 + b1.1 ≤ b.1 ∧ 3 + b1.2 ≤ b.2) (k : ∀ (K' : List XK) (l' : List (Nat × Nat × Nat)), K' = K ++ [(.inl 0 : XK)] → l' = (A, q, m) :: l → K'.length = m + 1 → (∀ i, m + 1 ≤ i → ∀ j, rfT l' i j = none) → (∀ i, m + 1 ≤ i → ∀ j, f i j = 0) → (∀ (i : Nat) (c : XK), K[i]? = some c → K'[i]? = some c) → (∀ i j v, i < m → ¬ (i = A ∧ j = q) → rfT l i j = some v → rfT l' i j = some v) → V mX2_init (d + 3) b1 106 [some (.ref (ks.length + a)), some (.int (nI (q + 1)))] [] (wW ks R0 K' l') (wI ks.length I0 (m + 1) f) Q) : V mX2_init (d + 3) b 106 [some (.ref (ks.length + a)), some (.int (nI q))] [] (wW ks R0 K l) (wI ks.length I0 m f) Q := by
  have ham := K_lt hm hk
  have hAm := K_lt hm hA
  refine bX2_init_106 (fun c => absurd (ge_i (a := 6) (by omega) (by omega) c) (by omega)) (fun _ => ?_)
  refine bX2_init_112 (b1 := b1) (bc := (0, 0)) (be := b1) (wW_get hk) (wW_val hv) hb (by
    rw [wW_push rfl hm (hl _ (Nat.le_refl _)), wW_len hm, wI_z (hf _ (Nat.le_refl _))]
    exact pX0_init) ⟨by show 0 + b1.1 ≤ b1.1; omega, by show 0 + b1.2 ≤ b1.2; omega⟩ ?_ ?_
  · rintro _ _ ⟨rfl, rfl⟩
    rw [wW_push rfl hm (hl _ (Nat.le_refl _))]
    show (ks ++ _).length = (ks ++ _).length + _
    simp only [List.length_append, List.length_cons, List.length_nil]
    try omega
  rintro _ _ ⟨rfl, rfl⟩
  rw [wW_len hm]
  refine bX2_init_124 (n1 := 6) (i2 := q) ⟨wW_get (K_old hA), rfl, rfl⟩ rfl hq (wW_get (K_last hm)) ?_
  rw [wW_ref]
  refine bX2_init_125 ?_
  rw [nI_1]
  refine k _ _ rfl rfl ?_ ?_ ?_ ?_ ?_
  · exact K_len hm
  · exact rf_c (rf_s hl (by omega)) (by omega)
  · exact f_s hf (by omega)
  · intro i c hi
    exact K_old hi
  · intro i j v hi hne h
    exact rf_n h hne

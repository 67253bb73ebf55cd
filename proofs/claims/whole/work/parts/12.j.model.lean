theorem s10_4 {d : Nat} {b : Nat × Nat} {Q : Option Value → XS → XI → Prop} {ks : List XK} {R0 : Nat → Nat → Option Nat} {I0 : XI} {K : List XK} {l : List (Nat × Nat × Nat)} {f : XI} {a m : Nat} {b1 : Nat × Nat} (hk : K[a]? = some (.inl 10)) (hm : K.length = m) (hl : ∀ i, m ≤ i → ∀ j, rfT l i j = none) (hf : ∀ i, m ≤ i → ∀ j, f i j = 0) (hb : 1 + b1.1 ≤ b.1 ∧ 384 + b1.2 ≤ b.2) (k : ∀ (K' : List XK) (l' : List (Nat × Nat × Nat)), K' = K ++ [(.inr (.inl 384) : XK)] → l' = (a, 0, m) :: l → K'.length = m + 1 → (∀ i, m + 1 ≤ i → ∀ j, rfT l' i j = none) → (∀ i, m + 1 ≤ i → ∀ j, f i j = 0) → (∀ (i : Nat) (c : XK), K[i]? = some c → K'[i]? = some c) → (∀ i j v, i < m → ¬ (i = a ∧ j = 0) → rfT l i j = some v → rfT l' i j = some v) → V mX10_init (d + 1) b1 13 [some (.ref (ks.length + a))] [] (wW ks R0 K' l') (wI ks.length I0 (m + 1) f) Q) : V mX10_init (d + 1) b 4 [some (.ref (ks.length + a))] [] (wW ks R0 K l) (wI ks.length I0 m f) Q := by
  have ham := K_lt hm hk
  refine bX10_init_4 (b1 := b1) hb (by rw [wW_push rfl hm (hl _ (Nat.le_refl _))]; exact wW_get (K_old hk)) ?_
  rw [wW_pr rfl hm (hl _ (Nat.le_refl _)), wW_len hm, wI_z (hf _ (Nat.le_refl _))]
  refine k _ _ rfl rfl ?_ ?_ ?_ ?_ ?_
  · exact K_len hm
  · exact rf_c (rf_s hl (by omega)) (by omega)
  · exact f_s hf (by omega)
  · intro i c hi
    exact K_old hi
  · intro i j v hi hne h
    exact rf_n h hne
theorem s10_13 {d : Nat} {b : Nat × Nat} {Q : Option Value → XS → XI → Prop} {ks : List XK} {R0 : Nat → Nat → Option Nat} {I0 : XI} {K : List XK} {l : List (Nat × Nat × Nat)} {f : XI} {a m : Nat} {b1 : Nat × Nat} (hk : K[a]? = some (.inl 10)) (hm : K.length = m) (hl : ∀ i, m ≤ i → ∀ j, rfT l i j = none) (hf : ∀ i, m ≤ i → ∀ j, f i j = 0) (hb : 1 + b1.1 ≤ b.1 ∧ 384 + b1.2 ≤ b.2) (k : ∀ (K' : List XK) (l' : List (Nat × Nat × Nat)), K' = K ++ [(.inr (.inl 384) : XK)] → l' = (a, 1, m) :: l → K'.length = m + 1 → (∀ i, m + 1 ≤ i → ∀ j, rfT l' i j = none) → (∀ i, m + 1 ≤ i → ∀ j, f i j = 0) → (∀ (i : Nat) (c : XK), K[i]? = some c → K'[i]? = some c) → (∀ i j v, i < m → ¬ (i = a ∧ j = 1) → rfT l i j = some v → rfT l' i j = some v) → V mX10_init (d + 1) b1 22 [some (.ref (ks.length + a))] [] (wW ks R0 K' l') (wI ks.length I0 (m + 1) f) Q) : V mX10_init (d + 1) b 13 [some (.ref (ks.length + a))] [] (wW ks R0 K l) (wI ks.length I0 m f) Q := by
  have ham := K_lt hm hk
  refine bX10_init_13 (b1 := b1) hb (by rw [wW_push rfl hm (hl _ (Nat.le_refl _))]; exact wW_get (K_old hk)) ?_
  rw [wW_pr rfl hm (hl _ (Nat.le_refl _)), wW_len hm, wI_z (hf _ (Nat.le_refl _))]
  refine k _ _ rfl rfl ?_ ?_ ?_ ?_ ?_
  · exact K_len hm
  · exact rf_c (rf_s hl (by omega)) (by omega)
  · exact f_s hf (by omega)
  · intro i c hi
    exact K_old hi
  · intro i j v hi hne h
    exact rf_n h hne
theorem s10_22 {d : Nat} {b : Nat × Nat} {Q : Option Value → XS → XI → Prop} {ks : List XK} {R0 : Nat → Nat → Option Nat} {I0 : XI} {K : List XK} {l : List (Nat × Nat × Nat)} {f : XI} {a m : Nat} {b1 : Nat × Nat} (hk : K[a]? = some (.inl 10)) (hm : K.length = m) (hl : ∀ i, m ≤ i → ∀ j, rfT l i j = none) (hf : ∀ i, m ≤ i → ∀ j, f i j = 0) (hb : 1 + b1.1 ≤ b.1 ∧ 50 + b1.2 ≤ b.2) (k : ∀ (K' : List XK) (l' : List (Nat × Nat × Nat)), K' = K ++ [(.inr (.inl 50) : XK)] → l' = (a, 2, m) :: l → K'.length = m + 1 → (∀ i, m + 1 ≤ i → ∀ j, rfT l' i j = none) → (∀ i, m + 1 ≤ i → ∀ j, f i j = 0) → (∀ (i : Nat) (c : XK), K[i]? = some c → K'[i]? = some c) → (∀ i j v, i < m → ¬ (i = a ∧ j = 2) → rfT l i j = some v → rfT l' i j = some v) → V mX10_init (d + 1) b1 30 [some (.ref (ks.length + a))] [] (wW ks R0 K' l') (wI ks.length I0 (m + 1) f) Q) : V mX10_init (d + 1) b 22 [some (.ref (ks.length + a))] [] (wW ks R0 K l) (wI ks.length I0 m f) Q := by
  have ham := K_lt hm hk
  refine bX10_init_22 (b1 := b1) hb (by rw [wW_push rfl hm (hl _ (Nat.le_refl _))]; exact wW_get (K_old hk)) ?_
  rw [wW_pr rfl hm (hl _ (Nat.le_refl _)), wW_len hm, wI_z (hf _ (Nat.le_refl _))]
  refine k _ _ rfl rfl ?_ ?_ ?_ ?_ ?_
  · exact K_len hm
  · exact rf_c (rf_s hl (by omega)) (by omega)
  · exact f_s hf (by omega)
  · intro i c hi
    exact K_old hi
  · intro i j v hi hne h
    exact rf_n h hne
theorem s10_30 {d : Nat} {b : Nat × Nat} {Q : Option Value → XS → XI → Prop} {ks : List XK} {R0 : Nat → Nat → Option Nat} {I0 : XI} {K : List XK} {l : List (Nat × Nat × Nat)} {f : XI} {a m : Nat} {b1 : Nat × Nat} (hk : K[a]? = some (.inl 10)) (hm : K.length = m) (hl : ∀ i, m ≤ i → ∀ j, rfT l i j = none) (hf : ∀ i, m ≤ i → ∀ j, f i j = 0) (hb : 1 + b1.1 ≤ b.1 ∧ 7 + b1.2 ≤ b.2) (k : ∀ (K' : List XK) (l' : List (Nat × Nat × Nat)), K' = K ++ [(.inr (.inl 7) : XK)] → l' = (a, 4, m) :: l → K'.length = m + 1 → (∀ i, m + 1 ≤ i → ∀ j, rfT l' i j = none) → (∀ i, m + 1 ≤ i → ∀ j, f i j = 0) → (∀ (i : Nat) (c : XK), K[i]? = some c → K'[i]? = some c) → (∀ i j v, i < m → ¬ (i = a ∧ j = 4) → rfT l i j = some v → rfT l' i j = some v) → V mX10_init (d + 1) b1 38 [some (.ref (ks.length + a))] [] (wW ks R0 K' l') (wI ks.length I0 (m + 1) f) Q) : V mX10_init (d + 1) b 30 [some (.ref (ks.length + a))] [] (wW ks R0 K l) (wI ks.length I0 m f) Q := by
  have ham := K_lt hm hk
  refine bX10_init_30 (b1 := b1) hb (by rw [wW_push rfl hm (hl _ (Nat.le_refl _))]; exact wW_get (K_old hk)) ?_
  rw [wW_pr rfl hm (hl _ (Nat.le_refl _)), wW_len hm, wI_z (hf _ (Nat.le_refl _))]
  refine k _ _ rfl rfl ?_ ?_ ?_ ?_ ?_
  · exact K_len hm
  · exact rf_c (rf_s hl (by omega)) (by omega)
  · exact f_s hf (by omega)
  · intro i c hi
    exact K_old hi
  · intro i j v hi hne h
    exact rf_n h hne
theorem s10_38 {d : Nat} {b : Nat × Nat} {Q : Option Value → XS → XI → Prop} {ks : List XK} {R0 : Nat → Nat → Option Nat} {I0 : XI} {K : List XK} {l : List (Nat × Nat × Nat)} {f : XI} {a m : Nat} {b1 : Nat × Nat} (hk : K[a]? = some (.inl 10)) (hm : K.length = m) (hl : ∀ i, m ≤ i → ∀ j, rfT l i j = none) (hf : ∀ i, m ≤ i → ∀ j, f i j = 0) (hb : 1 + b1.1 ≤ b.1 ∧ 124 + b1.2 ≤ b.2) (k : ∀ (K' : List XK) (l' : List (Nat × Nat × Nat)), K' = K ++ [(.inr (.inl 124) : XK)] → l' = (a, 9, m) :: l → K'.length = m + 1 → (∀ i, m + 1 ≤ i → ∀ j, rfT l' i j = none) → (∀ i, m + 1 ≤ i → ∀ j, f i j = 0) → (∀ (i : Nat) (c : XK), K[i]? = some c → K'[i]? = some c) → (∀ i j v, i < m → ¬ (i = a ∧ j = 9) → rfT l i j = some v → rfT l' i j = some v) → V mX10_init (d + 1) b1 46 [some (.ref (ks.length + a))] [] (wW ks R0 K' l') (wI ks.length I0 (m + 1) f) Q) : V mX10_init (d + 1) b 38 [some (.ref (ks.length + a))] [] (wW ks R0 K l) (wI ks.length I0 m f) Q := by
  have ham := K_lt hm hk
  refine bX10_init_38 (b1 := b1) hb (by rw [wW_push rfl hm (hl _ (Nat.le_refl _))]; exact wW_get (K_old hk)) ?_
  rw [wW_pr rfl hm (hl _ (Nat.le_refl _)), wW_len hm, wI_z (hf _ (Nat.le_refl _))]
  refine k _ _ rfl rfl ?_ ?_ ?_ ?_ ?_
  · exact K_len hm
  · exact rf_c (rf_s hl (by omega)) (by omega)
  · exact f_s hf (by omega)
  · intro i c hi
    exact K_old hi
  · intro i j v hi hne h
    exact rf_n h hne
theorem s10_46 {d : Nat} {b : Nat × Nat} {Q : Option Value → XS → XI → Prop} {ks : List XK} {R0 : Nat → Nat → Option Nat} {I0 : XI} {K : List XK} {l : List (Nat × Nat × Nat)} {f : XI} {a m : Nat} {b1 : Nat × Nat} (hk : K[a]? = some (.inl 10)) (hm : K.length = m) (hl : ∀ i, m ≤ i → ∀ j, rfT l i j = none) (hf : ∀ i, m ≤ i → ∀ j, f i j = 0) (hb : 1 + b1.1 ≤ b.1 ∧ 128 + b1.2 ≤ b.2) (k : ∀ (K' : List XK) (l' : List (Nat × Nat × Nat)), K' = K ++ [(.inr (.inl 128) : XK)] → l' = (a, 10, m) :: l → K'.length = m + 1 → (∀ i, m + 1 ≤ i → ∀ j, rfT l' i j = none) → (∀ i, m + 1 ≤ i → ∀ j, f i j = 0) → (∀ (i : Nat) (c : XK), K[i]? = some c → K'[i]? = some c) → (∀ i j v, i < m → ¬ (i = a ∧ j = 10) → rfT l i j = some v → rfT l' i j = some v) → V mX10_init (d + 1) b1 55 [some (.ref (ks.length + a))] [] (wW ks R0 K' l') (wI ks.length I0 (m + 1) f) Q) : V mX10_init (d + 1) b 46 [some (.ref (ks.length + a))] [] (wW ks R0 K l) (wI ks.length I0 m f) Q := by
  have ham := K_lt hm hk
  refine bX10_init_46 (b1 := b1) hb (by rw [wW_push rfl hm (hl _ (Nat.le_refl _))]; exact wW_get (K_old hk)) ?_
  rw [wW_pr rfl hm (hl _ (Nat.le_refl _)), wW_len hm, wI_z (hf _ (Nat.le_refl _))]
  refine k _ _ rfl rfl ?_ ?_ ?_ ?_ ?_
  · exact K_len hm
  · exact rf_c (rf_s hl (by omega)) (by omega)
  · exact f_s hf (by omega)
  · intro i c hi
    exact K_old hi
  · intro i j v hi hne h
    exact rf_n h hne
theorem s10_55 {d : Nat} {b : Nat × Nat} {Q : Option Value → XS → XI → Prop} {ks : List XK} {R0 : Nat → Nat → Option Nat} {I0 : XI} {K : List XK} {l : List (Nat × Nat × Nat)} {f : XI} {a m : Nat} {b1 : Nat × Nat} (hk : K[a]? = some (.inl 10)) (hm : K.length = m) (hl : ∀ i, m ≤ i → ∀ j, rfT l i j = none) (hf : ∀ i, m ≤ i → ∀ j, f i j = 0) (hb : 1 + b1.1 ≤ b.1 ∧ 64 + b1.2 ≤ b.2) (k : ∀ (K' : List XK) (l' : List (Nat × Nat × Nat)), K' = K ++ [(.inr (.inl 64) : XK)] → l' = (a, 11, m) :: l → K'.length = m + 1 → (∀ i, m + 1 ≤ i → ∀ j, rfT l' i j = none) → (∀ i, m + 1 ≤ i → ∀ j, f i j = 0) → (∀ (i : Nat) (c : XK), K[i]? = some c → K'[i]? = some c) → (∀ i j v, i < m → ¬ (i = a ∧ j = 11) → rfT l i j = some v → rfT l' i j = some v) → V mX10_init (d + 1) b1 63 [some (.ref (ks.length + a))] [] (wW ks R0 K' l') (wI ks.length I0 (m + 1) f) Q) : V mX10_init (d + 1) b 55 [some (.ref (ks.length + a))] [] (wW ks R0 K l) (wI ks.length I0 m f) Q := by
  have ham := K_lt hm hk
  refine bX10_init_55 (b1 := b1) hb (by rw [wW_push rfl hm (hl _ (Nat.le_refl _))]; exact wW_get (K_old hk)) ?_
  rw [wW_pr rfl hm (hl _ (Nat.le_refl _)), wW_len hm, wI_z (hf _ (Nat.le_refl _))]
  refine k _ _ rfl rfl ?_ ?_ ?_ ?_ ?_
  · exact K_len hm
  · exact rf_c (rf_s hl (by omega)) (by omega)
  · exact f_s hf (by omega)
  · intro i c hi
    exact K_old hi
  · intro i j v hi hne h
    exact rf_n h hne
theorem s10_63 {d : Nat} {b : Nat × Nat} {Q : Option Value → XS → XI → Prop} {ks : List XK} {R0 : Nat → Nat → Option Nat} {I0 : XI} {K : List XK} {l : List (Nat × Nat × Nat)} {f : XI} {a m : Nat} {b1 : Nat × Nat} (hk : K[a]? = some (.inl 10)) (hm : K.length = m) (hl : ∀ i, m ≤ i → ∀ j, rfT l i j = none) (hf : ∀ i, m ≤ i → ∀ j, f i j = 0) (hb : 1 + b1.1 ≤ b.1 ∧ 30 + b1.2 ≤ b.2) (k : ∀ (K' : List XK) (l' : List (Nat × Nat × Nat)), K' = K ++ [(.inr (.inl 30) : XK)] → l' = (a, 13, m) :: l → K'.length = m + 1 → (∀ i, m + 1 ≤ i → ∀ j, rfT l' i j = none) → (∀ i, m + 1 ≤ i → ∀ j, f i j = 0) → (∀ (i : Nat) (c : XK), K[i]? = some c → K'[i]? = some c) → (∀ i j v, i < m → ¬ (i = a ∧ j = 13) → rfT l i j = some v → rfT l' i j = some v) → V mX10_init (d + 1) b1 71 [some (.ref (ks.length + a))] [] (wW ks R0 K' l') (wI ks.length I0 (m + 1) f) Q) : V mX10_init (d + 1) b 63 [some (.ref (ks.length + a))] [] (wW ks R0 K l) (wI ks.length I0 m f) Q := by
  have ham := K_lt hm hk
  refine bX10_init_63 (b1 := b1) hb (by rw [wW_push rfl hm (hl _ (Nat.le_refl _))]; exact wW_get (K_old hk)) ?_
  rw [wW_pr rfl hm (hl _ (Nat.le_refl _)), wW_len hm, wI_z (hf _ (Nat.le_refl _))]
  refine k _ _ rfl rfl ?_ ?_ ?_ ?_ ?_
  · exact K_len hm
  · exact rf_c (rf_s hl (by omega)) (by omega)
  · exact f_s hf (by omega)
  · intro i c hi
    exact K_old hi
  · intro i j v hi hne h
    exact rf_n h hne
theorem s10_71 {d : Nat} {b : Nat × Nat} {Q : Option Value → XS → XI → Prop} {ks : List XK} {R0 : Nat → Nat → Option Nat} {I0 : XI} {K : List XK} {l : List (Nat × Nat × Nat)} {f : XI} {a m : Nat} {b1 : Nat × Nat} (hk : K[a]? = some (.inl 10)) (hm : K.length = m) (hl : ∀ i, m ≤ i → ∀ j, rfT l i j = none) (hf : ∀ i, m ≤ i → ∀ j, f i j = 0) (hb : 1 + b1.1 ≤ b.1 ∧ 4 + b1.2 ≤ b.2) (k : ∀ (K' : List XK) (l' : List (Nat × Nat × Nat)), K' = K ++ [(.inr (.inl 4) : XK)] → l' = (a, 16, m) :: l → K'.length = m + 1 → (∀ i, m + 1 ≤ i → ∀ j, rfT l' i j = none) → (∀ i, m + 1 ≤ i → ∀ j, f i j = 0) → (∀ (i : Nat) (c : XK), K[i]? = some c → K'[i]? = some c) → (∀ i j v, i < m → ¬ (i = a ∧ j = 16) → rfT l i j = some v → rfT l' i j = some v) → V mX10_init (d + 1) b1 78 [some (.ref (ks.length + a))] [] (wW ks R0 K' l') (wI ks.length I0 (m + 1) f) Q) : V mX10_init (d + 1) b 71 [some (.ref (ks.length + a))] [] (wW ks R0 K l) (wI ks.length I0 m f) Q := by
  have ham := K_lt hm hk
  refine bX10_init_71 (b1 := b1) hb (by rw [wW_push rfl hm (hl _ (Nat.le_refl _))]; exact wW_get (K_old hk)) ?_
  rw [wW_pr rfl hm (hl _ (Nat.le_refl _)), wW_len hm, wI_z (hf _ (Nat.le_refl _))]
  refine k _ _ rfl rfl ?_ ?_ ?_ ?_ ?_
  · exact K_len hm
  · exact rf_c (rf_s hl (by omega)) (by omega)
  · exact f_s hf (by omega)
  · intro i c hi
    exact K_old hi
  · intro i j v hi hne h
    exact rf_n h hne
theorem s10_78 {d : Nat} {b : Nat × Nat} {Q : Option Value → XS → XI → Prop} {ks : List XK} {R0 : Nat → Nat → Option Nat} {I0 : XI} {K : List XK} {l : List (Nat × Nat × Nat)} {f : XI} {a m : Nat} {b1 : Nat × Nat} (hk : K[a]? = some (.inl 10)) (hm : K.length = m) (hl : ∀ i, m ≤ i → ∀ j, rfT l i j = none) (hf : ∀ i, m ≤ i → ∀ j, f i j = 0) (hb : 1 + b1.1 ≤ b.1 ∧ 4 + b1.2 ≤ b.2) (k : ∀ (K' : List XK) (l' : List (Nat × Nat × Nat)), K' = K ++ [(.inr (.inl 4) : XK)] → l' = (a, 17, m) :: l → K'.length = m + 1 → (∀ i, m + 1 ≤ i → ∀ j, rfT l' i j = none) → (∀ i, m + 1 ≤ i → ∀ j, f i j = 0) → (∀ (i : Nat) (c : XK), K[i]? = some c → K'[i]? = some c) → (∀ i j v, i < m → ¬ (i = a ∧ j = 17) → rfT l i j = some v → rfT l' i j = some v) → V mX10_init (d + 1) b1 85 [some (.ref (ks.length + a))] [] (wW ks R0 K' l') (wI ks.length I0 (m + 1) f) Q) : V mX10_init (d + 1) b 78 [some (.ref (ks.length + a))] [] (wW ks R0 K l) (wI ks.length I0 m f) Q := by
  have ham := K_lt hm hk
  refine bX10_init_78 (b1 := b1) hb (by rw [wW_push rfl hm (hl _ (Nat.le_refl _))]; exact wW_get (K_old hk)) ?_
  rw [wW_pr rfl hm (hl _ (Nat.le_refl _)), wW_len hm, wI_z (hf _ (Nat.le_refl _))]
  refine k _ _ rfl rfl ?_ ?_ ?_ ?_ ?_
  · exact K_len hm
  · exact rf_c (rf_s hl (by omega)) (by omega)
  · exact f_s hf (by omega)
  · intro i c hi
    exact K_old hi
  · intro i j v hi hne h
    exact rf_n h hne
theorem s10_85 {d : Nat} {b : Nat × Nat} {Q : Option Value → XS → XI → Prop} {ks : List XK} {R0 : Nat → Nat → Option Nat} {I0 : XI} {K : List XK} {l : List (Nat × Nat × Nat)} {f : XI} {a m : Nat} {b1 : Nat × Nat} (hk : K[a]? = some (.inl 10)) (hm : K.length = m) (hl : ∀ i, m ≤ i → ∀ j, rfT l i j = none) (hf : ∀ i, m ≤ i → ∀ j, f i j = 0) (hb : 1 + b1.1 ≤ b.1 ∧ 96 + b1.2 ≤ b.2) (k : ∀ (K' : List XK) (l' : List (Nat × Nat × Nat)), K' = K ++ [(.inr (.inl 96) : XK)] → l' = (a, 18, m) :: l → K'.length = m + 1 → (∀ i, m + 1 ≤ i → ∀ j, rfT l' i j = none) → (∀ i, m + 1 ≤ i → ∀ j, f i j = 0) → (∀ (i : Nat) (c : XK), K[i]? = some c → K'[i]? = some c) → (∀ i j v, i < m → ¬ (i = a ∧ j = 18) → rfT l i j = some v → rfT l' i j = some v) → V mX10_init (d + 1) b1 93 [some (.ref (ks.length + a))] [] (wW ks R0 K' l') (wI ks.length I0 (m + 1) f) Q) : V mX10_init (d + 1) b 85 [some (.ref (ks.length + a))] [] (wW ks R0 K l) (wI ks.length I0 m f) Q := by
  have ham := K_lt hm hk
  refine bX10_init_85 (b1 := b1) hb (by rw [wW_push rfl hm (hl _ (Nat.le_refl _))]; exact wW_get (K_old hk)) ?_
  rw [wW_pr rfl hm (hl _ (Nat.le_refl _)), wW_len hm, wI_z (hf _ (Nat.le_refl _))]
  refine k _ _ rfl rfl ?_ ?_ ?_ ?_ ?_
  · exact K_len hm
  · exact rf_c (rf_s hl (by omega)) (by omega)
  · exact f_s hf (by omega)
  · intro i c hi
    exact K_old hi
  · intro i j v hi hne h
    exact rf_n h hne
theorem s10_93 {d : Nat} {b : Nat × Nat} {Q : Option Value → XS → XI → Prop} {ks : List XK} {R0 : Nat → Nat → Option Nat} {I0 : XI} {K : List XK} {l : List (Nat × Nat × Nat)} {f : XI} {a m : Nat} {b1 : Nat × Nat} (hk : K[a]? = some (.inl 10)) (hm : K.length = m) (hl : ∀ i, m ≤ i → ∀ j, rfT l i j = none) (hf : ∀ i, m ≤ i → ∀ j, f i j = 0) (hb : 1 + b1.1 ≤ b.1 ∧ 24 + b1.2 ≤ b.2) (k : ∀ (K' : List XK) (l' : List (Nat × Nat × Nat)), K' = K ++ [(.inr (.inl 24) : XK)] → l' = (a, 19, m) :: l → K'.length = m + 1 → (∀ i, m + 1 ≤ i → ∀ j, rfT l' i j = none) → (∀ i, m + 1 ≤ i → ∀ j, f i j = 0) → (∀ (i : Nat) (c : XK), K[i]? = some c → K'[i]? = some c) → (∀ i j v, i < m → ¬ (i = a ∧ j = 19) → rfT l i j = some v → rfT l' i j = some v) → V mX10_init (d + 1) b1 101 [some (.ref (ks.length + a))] [] (wW ks R0 K' l') (wI ks.length I0 (m + 1) f) Q) : V mX10_init (d + 1) b 93 [some (.ref (ks.length + a))] [] (wW ks R0 K l) (wI ks.length I0 m f) Q := by
  have ham := K_lt hm hk
  refine bX10_init_93 (b1 := b1) hb (by rw [wW_push rfl hm (hl _ (Nat.le_refl _))]; exact wW_get (K_old hk)) ?_
  rw [wW_pr rfl hm (hl _ (Nat.le_refl _)), wW_len hm, wI_z (hf _ (Nat.le_refl _))]
  refine k _ _ rfl rfl ?_ ?_ ?_ ?_ ?_
  · exact K_len hm
  · exact rf_c (rf_s hl (by omega)) (by omega)
  · exact f_s hf (by omega)
  · intro i c hi
    exact K_old hi
  · intro i j v hi hne h
    exact rf_n h hne
def modK : List XK := [.inr (.inl 384), .inr (.inl 384), .inr (.inl 50), .inr (.inl 7), .inr (.inl 124), .inr (.inl 128), .inr (.inl 64), .inr (.inl 30), .inr (.inl 4), .inr (.inl 4), .inr (.inl 96), .inr (.inl 24)]
def modl (a m : Nat) : List (Nat × Nat × Nat) := [(a, 19, m + 11), (a, 18, m + 10), (a, 17, m + 9), (a, 16, m + 8), (a, 13, m + 7), (a, 11, m + 6), (a, 10, m + 5), (a, 9, m + 4), (a, 4, m + 3), (a, 2, m + 2), (a, 1, m + 1), (a, 0, m + 0)]
theorem pX10_init {d : Nat} {ks : List XK} {R0 : Nat → Nat → Option Nat} {I0 : XI} {K : List XK} {l : List (Nat × Nat × Nat)} {f : XI} {a m : Nat}  (hk : K[a]? = some (.inl 10)) (hm : K.length = m) (hl : ∀ i, m ≤ i → ∀ j, rfT l i j = none) (hf : ∀ i, m ≤ i → ∀ j, f i j = 0) : SpC mX10_init (d + 1) (12, 1299) [.ref (ks.length + a)] (wW ks R0 K l) (wI ks.length I0 m f) (fun S' im' => S' = (wW ks R0 (K ++ modK) (modl a m ++ l)) ∧ im' = (wI ks.length I0 (m + 12) (xup f m 1 1))) := by
  refine SpC.of [some (.ref (ks.length + a))] rfl (by decide) rfl (fun Q hQ => ?_)
  have ham := K_lt hm hk
  refine bX10_init_0 ?_
  refine s10_4 (b1 := (11, 915)) hk hm hl hf ⟨by decide, by decide⟩ (fun K1 l1 hK1 hl1_ hm1 hL1 hF1 hKo1 hlo1 => ?_)
  have hk1 := hKo1 _ _ hk
  have hRx1 : K1[m]? = some (.inr (.inl 384)) := by
    rw [hK1]
    exact K_last hm
  have hwx1 : rfT l1 a 0 = some m := by
    rw [hl1_]
    exact rf_at
  clear hKo1 hlo1
  refine s10_13 (b1 := (10, 531)) hk1 hm1 hL1 hF1 ⟨by decide, by decide⟩ (fun K2 l2 hK2 hl2_ hm2 hL2 hF2 hKo2 hlo2 => ?_)
  have hk2 := hKo2 _ _ hk1
  have hRx2 := hKo2 _ _ hRx1
  have hwx2 := hlo2 _ _ _ (by omega) (by omega) hwx1
  clear hKo2 hlo2 hL1 hF1 hm1 hk1 hRx1 hwx1
  refine s10_22 (b1 := (9, 481)) hk2 hm2 hL2 hF2 ⟨by decide, by decide⟩ (fun K3 l3 hK3 hl3_ hm3 hL3 hF3 hKo3 hlo3 => ?_)
  have hk3 := hKo3 _ _ hk2
  have hRx3 := hKo3 _ _ hRx2
  have hwx3 := hlo3 _ _ _ (by omega) (by omega) hwx2
  clear hKo3 hlo3 hL2 hF2 hm2 hk2 hRx2 hwx2
  refine s10_30 (b1 := (8, 474)) hk3 hm3 hL3 hF3 ⟨by decide, by decide⟩ (fun K4 l4 hK4 hl4_ hm4 hL4 hF4 hKo4 hlo4 => ?_)
  have hk4 := hKo4 _ _ hk3
  have hRx4 := hKo4 _ _ hRx3
  have hwx4 := hlo4 _ _ _ (by omega) (by omega) hwx3
  clear hKo4 hlo4 hL3 hF3 hm3 hk3 hRx3 hwx3
  refine s10_38 (b1 := (7, 350)) hk4 hm4 hL4 hF4 ⟨by decide, by decide⟩ (fun K5 l5 hK5 hl5_ hm5 hL5 hF5 hKo5 hlo5 => ?_)
  have hk5 := hKo5 _ _ hk4
  have hRx5 := hKo5 _ _ hRx4
  have hwx5 := hlo5 _ _ _ (by omega) (by omega) hwx4
  clear hKo5 hlo5 hL4 hF4 hm4 hk4 hRx4 hwx4
  refine s10_46 (b1 := (6, 222)) hk5 hm5 hL5 hF5 ⟨by decide, by decide⟩ (fun K6 l6 hK6 hl6_ hm6 hL6 hF6 hKo6 hlo6 => ?_)
  have hk6 := hKo6 _ _ hk5
  have hRx6 := hKo6 _ _ hRx5
  have hwx6 := hlo6 _ _ _ (by omega) (by omega) hwx5
  clear hKo6 hlo6 hL5 hF5 hm5 hk5 hRx5 hwx5
  refine s10_55 (b1 := (5, 158)) hk6 hm6 hL6 hF6 ⟨by decide, by decide⟩ (fun K7 l7 hK7 hl7_ hm7 hL7 hF7 hKo7 hlo7 => ?_)
  have hk7 := hKo7 _ _ hk6
  have hRx7 := hKo7 _ _ hRx6
  have hwx7 := hlo7 _ _ _ (by omega) (by omega) hwx6
  clear hKo7 hlo7 hL6 hF6 hm6 hk6 hRx6 hwx6
  refine s10_63 (b1 := (4, 128)) hk7 hm7 hL7 hF7 ⟨by decide, by decide⟩ (fun K8 l8 hK8 hl8_ hm8 hL8 hF8 hKo8 hlo8 => ?_)
  have hk8 := hKo8 _ _ hk7
  have hRx8 := hKo8 _ _ hRx7
  have hwx8 := hlo8 _ _ _ (by omega) (by omega) hwx7
  clear hKo8 hlo8 hL7 hF7 hm7 hk7 hRx7 hwx7
  refine s10_71 (b1 := (3, 124)) hk8 hm8 hL8 hF8 ⟨by decide, by decide⟩ (fun K9 l9 hK9 hl9_ hm9 hL9 hF9 hKo9 hlo9 => ?_)
  have hk9 := hKo9 _ _ hk8
  have hRx9 := hKo9 _ _ hRx8
  have hwx9 := hlo9 _ _ _ (by omega) (by omega) hwx8
  clear hKo9 hlo9 hL8 hF8 hm8 hk8 hRx8 hwx8
  refine s10_78 (b1 := (2, 120)) hk9 hm9 hL9 hF9 ⟨by decide, by decide⟩ (fun K10 l10 hK10 hl10_ hm10 hL10 hF10 hKo10 hlo10 => ?_)
  have hk10 := hKo10 _ _ hk9
  have hRx10 := hKo10 _ _ hRx9
  have hwx10 := hlo10 _ _ _ (by omega) (by omega) hwx9
  clear hKo10 hlo10 hL9 hF9 hm9 hk9 hRx9 hwx9
  refine s10_85 (b1 := (1, 24)) hk10 hm10 hL10 hF10 ⟨by decide, by decide⟩ (fun K11 l11 hK11 hl11_ hm11 hL11 hF11 hKo11 hlo11 => ?_)
  have hk11 := hKo11 _ _ hk10
  have hRx11 := hKo11 _ _ hRx10
  have hwx11 := hlo11 _ _ _ (by omega) (by omega) hwx10
  clear hKo11 hlo11 hL10 hF10 hm10 hk10 hRx10 hwx10
  refine s10_93 (b1 := (0, 0)) hk11 hm11 hL11 hF11 ⟨by decide, by decide⟩ (fun K12 l12 hK12 hl12_ hm12 hL12 hF12 hKo12 hlo12 => ?_)
  have hk12 := hKo12 _ _ hk11
  have hRx12 := hKo12 _ _ hRx11
  have hwx12 := hlo12 _ _ _ (by omega) (by omega) hwx11
  clear hKo12 hlo12 hL11 hF11 hm11 hk11 hRx11 hwx11
  refine bX10_init_101 (n2 := 384) (wW_get hk12) (wW_val hwx12) ⟨wW_get hRx12, rfl⟩ (by decide) ?_
  rw [wI_u (by omega)]
  have eK : K12 = K ++ modK := by
    rw [hK12, hK11, hK10, hK9, hK8, hK7, hK6, hK5, hK4, hK3, hK2, hK1]
    simp only [List.append_assoc, List.cons_append, List.nil_append]
    rfl
  have el : l12 = modl a m ++ l := by
    rw [hl12_, hl11_, hl10_, hl9_, hl8_, hl7_, hl6_, hl5_, hl4_, hl3_, hl2_, hl1_]
    rfl
  rw [eK, el]
  exact hQ _ _ ⟨rfl, rfl⟩

theorem pX7_init {d : Nat} {ks : List XK} {R0 : Nat → Nat → Option Nat} {I0 : XI} {K : List XK} {l : List (Nat × Nat × Nat)} {f : XI} {a m : Nat}  (hk : K[a]? = some (.inl 7)) (hm : K.length = m) (hl : ∀ i, m ≤ i → ∀ j, rfT l i j = none) (hf : ∀ i, m ≤ i → ∀ j, f i j = 0) : SpC mX7_init (d + 2) (2, 26) [.ref (ks.length + a)] (wW ks R0 K l) (wI ks.length I0 m f) (fun S' im' => S' = (wW ks R0 (K ++ [.inl 6] ++ [.inr (.inl 24)]) ((a, 0, m) :: (m, 0, m + 1) :: l)) ∧ im' = (wI ks.length I0 (m + 1 + 1) f)) := by
  refine SpC.of [some (.ref (ks.length + a))] rfl (by decide) rfl (fun Q hQ => ?_)
  have ham := K_lt hm hk
  refine bX7_init_0 ?_
  refine bX7_init_4 (b1 := (1, 24)) (bc := (1, 24)) (be := (0, 0)) ⟨by decide, by decide⟩ (by
    rw [wW_push rfl hm (hl _ (Nat.le_refl _)), wW_len hm, wI_z (hf _ (Nat.le_refl _))]
    exact pX6_init (a := m) (n := 24) rfl (by omega) (K_last hm) (K_len hm) (rf_s hl (by omega)) (f_s hf (by omega))) ⟨by decide, by decide⟩ ?_ ?_
  · rintro _ _ ⟨rfl, rfl⟩
    rw [wW_push rfl hm (hl _ (Nat.le_refl _))]
    show (ks ++ _).length = (ks ++ _).length + _
    simp only [List.length_append, List.length_cons, List.length_nil]
    try omega
  rintro _ _ ⟨rfl, rfl⟩
  rw [wW_len hm]
  refine bX7_init_14 (wW_get (K_old (K_old hk))) ?_
  rw [wW_ref]
  refine bX7_init_17 ?_
  exact hQ _ _ ⟨rfl, rfl⟩
theorem pX8_init {d : Nat} {ks : List XK} {R0 : Nat → Nat → Option Nat} {I0 : XI} {K : List XK} {l : List (Nat × Nat × Nat)} {f : XI} {a m : Nat}  (hk : K[a]? = some (.inl 8)) (hm : K.length = m) (hl : ∀ i, m ≤ i → ∀ j, rfT l i j = none) (hf : ∀ i, m ≤ i → ∀ j, f i j = 0) : SpC mX8_init (d + 2) (2, 32) [.ref (ks.length + a)] (wW ks R0 K l) (wI ks.length I0 m f) (fun S' im' => S' = (wW ks R0 (K ++ [.inl 6] ++ [.inr (.inl 30)]) ((a, 0, m) :: (m, 0, m + 1) :: l)) ∧ im' = (wI ks.length I0 (m + 1 + 1) f)) := by
  refine SpC.of [some (.ref (ks.length + a))] rfl (by decide) rfl (fun Q hQ => ?_)
  have ham := K_lt hm hk
  refine bX8_init_0 ?_
  refine bX8_init_4 (b1 := (1, 30)) (bc := (1, 30)) (be := (0, 0)) ⟨by decide, by decide⟩ (by
    rw [wW_push rfl hm (hl _ (Nat.le_refl _)), wW_len hm, wI_z (hf _ (Nat.le_refl _))]
    exact pX6_init (a := m) (n := 30) rfl (by omega) (K_last hm) (K_len hm) (rf_s hl (by omega)) (f_s hf (by omega))) ⟨by decide, by decide⟩ ?_ ?_
  · rintro _ _ ⟨rfl, rfl⟩
    rw [wW_push rfl hm (hl _ (Nat.le_refl _))]
    show (ks ++ _).length = (ks ++ _).length + _
    simp only [List.length_append, List.length_cons, List.length_nil]
    try omega
  rintro _ _ ⟨rfl, rfl⟩
  rw [wW_len hm]
  refine bX8_init_14 (wW_get (K_old (K_old hk))) ?_
  rw [wW_ref]
  refine bX8_init_17 ?_
  exact hQ _ _ ⟨rfl, rfl⟩
theorem pX5_init {d : Nat} {ks : List XK} {R0 : Nat → Nat → Option Nat} {I0 : XI} {K : List XK} {l : List (Nat × Nat × Nat)} {f : XI} {a m : Nat} {t : Nat} (hk : K[a]? = some (.inl 5)) (hm : K.length = m) (hl : ∀ i, m ≤ i → ∀ j, rfT l i j = none) (hf : ∀ i, m ≤ i → ∀ j, f i j = 0) : SpC mX5_init (d + 2) (2, 62) [.ref (ks.length + a), .ref (ks.length + t)] (wW ks R0 K l) (wI ks.length I0 m f) (fun S' im' => S' = (wW ks R0 (K ++ [.inl 6] ++ [.inr (.inl 60)]) ((a, 0, t) :: (a, 1, m) :: (m, 0, m + 1) :: l)) ∧ im' = (wI ks.length I0 (m + 1 + 1) f)) := by
  refine SpC.of [some (.ref (ks.length + a)), some (.ref (ks.length + t))] rfl (by decide) rfl (fun Q hQ => ?_)
  have ham := K_lt hm hk
  refine bX5_init_0 ?_
  refine bX5_init_4 (b1 := (1, 60)) (bc := (1, 60)) (be := (0, 0)) ⟨by decide, by decide⟩ (by
    rw [wW_push rfl hm (hl _ (Nat.le_refl _)), wW_len hm, wI_z (hf _ (Nat.le_refl _))]
    exact pX6_init (a := m) (n := 60) rfl (by omega) (K_last hm) (K_len hm) (rf_s hl (by omega)) (f_s hf (by omega))) ⟨by decide, by decide⟩ ?_ ?_
  · rintro _ _ ⟨rfl, rfl⟩
    rw [wW_push rfl hm (hl _ (Nat.le_refl _))]
    show (ks ++ _).length = (ks ++ _).length + _
    simp only [List.length_append, List.length_cons, List.length_nil]
    try omega
  rintro _ _ ⟨rfl, rfl⟩
  rw [wW_len hm]
  refine bX5_init_14 (wW_get (K_old (K_old hk))) ?_
  rw [wW_ref]
  refine bX5_init_17 (wW_get (K_old (K_old hk))) ?_
  rw [wW_ref]
  refine bX5_init_22 ?_
  exact hQ _ _ ⟨rfl, rfl⟩
theorem pX1_init {d : Nat} {ks : List XK} {R0 : Nat → Nat → Option Nat} {I0 : XI} {K : List XK} {l : List (Nat × Nat × Nat)} {f : XI} {a m : Nat} {t : Nat} (hk : K[a]? = some (.inl 1)) (hm : K.length = m) (hl : ∀ i, m ≤ i → ∀ j, rfT l i j = none) (hf : ∀ i, m ≤ i → ∀ j, f i j = 0) : SpC mX1_init (d + 1) (1, 99) [.ref (ks.length + a), .ref (ks.length + t)] (wW ks R0 K l) (wI ks.length I0 m f) (fun S' im' => S' = (wW ks R0 (K ++ [.inr (.inl 99)]) ((a, 0, t) :: (a, 1, m) :: l)) ∧ im' = (wI ks.length I0 (m + 1) f)) := by
  refine SpC.of [some (.ref (ks.length + a)), some (.ref (ks.length + t))] rfl (by decide) rfl (fun Q hQ => ?_)
  have ham := K_lt hm hk
  refine bX1_init_0 ?_
  refine bX1_init_4 (b1 := (0, 0)) ⟨by decide, by decide⟩ (by rw [wW_push rfl hm (hl m (Nat.le_refl m))]; exact wW_get (K_old hk)) ?_
  rw [wW_pr rfl hm (hl m (Nat.le_refl m)), wW_len hm, wI_z (hf m (Nat.le_refl m))]
  refine bX1_init_12 (wW_get (K_old hk)) ?_
  rw [wW_ref]
  refine bX1_init_17 ?_
  exact hQ _ _ ⟨rfl, rfl⟩
theorem pX3_init {d : Nat} {ks : List XK} {R0 : Nat → Nat → Option Nat} {I0 : XI} {K : List XK} {l : List (Nat × Nat × Nat)} {f : XI} {a m : Nat} {v : Int32} (hk : K[a]? = some (.inl 3)) (hm : K.length = m) (hl : ∀ i, m ≤ i → ∀ j, rfT l i j = none) (hf : ∀ i, m ≤ i → ∀ j, f i j = 0) : SpC mX3_init (d + 2) (3, 122) [.ref (ks.length + a), .int v] (wW ks R0 K l) (wI ks.length I0 m f) (fun S' im' => S' = (wW ks R0 (K ++ [.inl 6] ++ [.inr (.inl 60)] ++ [.inr (.inl 60)]) ((a, 2, m + 1 + 1) :: (a, 1, m) :: (m, 0, m + 1) :: l)) ∧ im' = (wI ks.length I0 (m + 1 + 1 + 1) (xup f a 0 v))) := by
  refine SpC.of [some (.ref (ks.length + a)), some (.int v)] rfl (by decide) rfl (fun Q hQ => ?_)
  have ham := K_lt hm hk
  refine bX3_init_0 ?_
  refine bX3_init_4 (b1 := (2, 120)) (bc := (1, 60)) (be := (1, 60)) ⟨by decide, by decide⟩ (by
    rw [wW_push rfl hm (hl _ (Nat.le_refl _)), wW_len hm, wI_z (hf _ (Nat.le_refl _))]
    exact pX6_init (a := m) (n := 60) rfl (by omega) (K_last hm) (K_len hm) (rf_s hl (by omega)) (f_s hf (by omega))) ⟨by decide, by decide⟩ ?_ ?_
  · rintro _ _ ⟨rfl, rfl⟩
    rw [wW_push rfl hm (hl _ (Nat.le_refl _))]
    show (ks ++ _).length = (ks ++ _).length + _
    simp only [List.length_append, List.length_cons, List.length_nil]
    try omega
  rintro _ _ ⟨rfl, rfl⟩
  rw [wW_len hm]
  refine bX3_init_14 (wW_get (K_old (K_old hk))) ?_
  rw [wW_ref]
  have hl2 : ∀ i, m + 1 + 1 ≤ i → ∀ j, rfT ((a, 1, m) :: (m, 0, m + 1) :: l) i j = none := rf_c (rf_c (rf_s hl (by omega)) (by omega)) (by omega)
  have hm2 : (K ++ [(.inl 6 : XK)] ++ [(.inr (.inl 60) : XK)]).length = m + 1 + 1 := K_len (K_len hm)
  refine bX3_init_17 (b1 := (0, 0)) ⟨by decide, by decide⟩ (by rw [wW_push rfl hm2 (hl2 _ (Nat.le_refl _))]; exact wW_get (K_old (K_old (K_old hk)))) ?_
  rw [wW_pr rfl hm2 (hl2 _ (Nat.le_refl _)), wW_len hm2, wI_z (hf _ (by omega))]
  refine bX3_init_25 (wW_get (K_old (K_old (K_old hk)))) ?_
  rw [wI_u (by omega)]
  refine bX3_init_30 ?_
  exact hQ _ _ ⟨rfl, rfl⟩

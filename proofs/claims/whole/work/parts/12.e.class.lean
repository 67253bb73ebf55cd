set_option maxHeartbeats 8000000 in
theorem pX2_init {d : Nat} {ks : List XK} {R0 : Nat → Nat → Option Nat} {I0 : XI} {K : List XK} {l : List (Nat × Nat × Nat)} {f : XI} {a m : Nat}  (hk : K[a]? = some (.inl 2)) (hm : K.length = m) (hl : ∀ i, m ≤ i → ∀ j, rfT l i j = none) (hf : ∀ i, m ≤ i → ∀ j, f i j = 0) : SpC mX2_init (d + 3) (26, 394) [.ref (ks.length + a)] (wW ks R0 K l) (wI ks.length I0 m f) (fun S' im' => S' = (wW ks R0 (K ++ [(.inr (.inr (0, 6)) : XK)] ++ [(.inr (.inr (1, 6)) : XK)] ++ [(.inl 3 : XK)] ++ [(.inl 6 : XK)] ++ [(.inr (.inl 60) : XK)] ++ [(.inr (.inl 60) : XK)] ++ [(.inl 3 : XK)] ++ [(.inl 6 : XK)] ++ [(.inr (.inl 60) : XK)] ++ [(.inr (.inl 60) : XK)] ++ [(.inl 6 : XK)] ++ [(.inr (.inl 60) : XK)] ++ [(.inl 6 : XK)] ++ [(.inr (.inl 24) : XK)] ++ [(.inl 4 : XK)] ++ [(.inl 4 : XK)] ++ [(.inl 4 : XK)] ++ [(.inl 4 : XK)] ++ [(.inl 4 : XK)] ++ [(.inl 4 : XK)] ++ [(.inl 0 : XK)] ++ [(.inl 0 : XK)] ++ [(.inl 0 : XK)] ++ [(.inl 0 : XK)] ++ [(.inl 0 : XK)] ++ [(.inl 0 : XK)]) ((m + 1, 5, m + 1 + 1 + 1 + 1 + 1 + 1 + 1 + 1 + 1 + 1 + 1 + 1 + 1 + 1 + 1 + 1 + 1 + 1 + 1 + 1 + 1 + 1 + 1 + 1 + 1) :: (m + 1, 4, m + 1 + 1 + 1 + 1 + 1 + 1 + 1 + 1 + 1 + 1 + 1 + 1 + 1 + 1 + 1 + 1 + 1 + 1 + 1 + 1 + 1 + 1 + 1 + 1) :: (m + 1, 3, m + 1 + 1 + 1 + 1 + 1 + 1 + 1 + 1 + 1 + 1 + 1 + 1 + 1 + 1 + 1 + 1 + 1 + 1 + 1 + 1 + 1 + 1 + 1) :: (m + 1, 2, m + 1 + 1 + 1 + 1 + 1 + 1 + 1 + 1 + 1 + 1 + 1 + 1 + 1 + 1 + 1 + 1 + 1 + 1 + 1 + 1 + 1 + 1) :: (m + 1, 1, m + 1 + 1 + 1 + 1 + 1 + 1 + 1 + 1 + 1 + 1 + 1 + 1 + 1 + 1 + 1 + 1 + 1 + 1 + 1 + 1 + 1) :: (m + 1, 0, m + 1 + 1 + 1 + 1 + 1 + 1 + 1 + 1 + 1 + 1 + 1 + 1 + 1 + 1 + 1 + 1 + 1 + 1 + 1 + 1) :: (m, 5, m + 1 + 1 + 1 + 1 + 1 + 1 + 1 + 1 + 1 + 1 + 1 + 1 + 1 + 1 + 1 + 1 + 1 + 1 + 1) :: (m, 4, m + 1 + 1 + 1 + 1 + 1 + 1 + 1 + 1 + 1 + 1 + 1 + 1 + 1 + 1 + 1 + 1 + 1 + 1) :: (m, 3, m + 1 + 1 + 1 + 1 + 1 + 1 + 1 + 1 + 1 + 1 + 1 + 1 + 1 + 1 + 1 + 1 + 1) :: (m, 2, m + 1 + 1 + 1 + 1 + 1 + 1 + 1 + 1 + 1 + 1 + 1 + 1 + 1 + 1 + 1 + 1) :: (m, 1, m + 1 + 1 + 1 + 1 + 1 + 1 + 1 + 1 + 1 + 1 + 1 + 1 + 1 + 1 + 1) :: (m, 0, m + 1 + 1 + 1 + 1 + 1 + 1 + 1 + 1 + 1 + 1 + 1 + 1 + 1 + 1) :: (a, 5, m + 1 + 1 + 1 + 1 + 1 + 1 + 1 + 1 + 1 + 1 + 1 + 1) :: (m + 1 + 1 + 1 + 1 + 1 + 1 + 1 + 1 + 1 + 1 + 1 + 1, 0, m + 1 + 1 + 1 + 1 + 1 + 1 + 1 + 1 + 1 + 1 + 1 + 1 + 1) :: (a, 4, m + 1 + 1 + 1 + 1 + 1 + 1 + 1 + 1 + 1 + 1) :: (m + 1 + 1 + 1 + 1 + 1 + 1 + 1 + 1 + 1 + 1, 0, m + 1 + 1 + 1 + 1 + 1 + 1 + 1 + 1 + 1 + 1 + 1) :: (a, 3, m + 1 + 1 + 1 + 1 + 1 + 1) :: (m + 1 + 1 + 1 + 1 + 1 + 1, 2, m + 1 + 1 + 1 + 1 + 1 + 1 + 1 + 1 + 1) :: (m + 1 + 1 + 1 + 1 + 1 + 1, 1, m + 1 + 1 + 1 + 1 + 1 + 1 + 1) :: (m + 1 + 1 + 1 + 1 + 1 + 1 + 1, 0, m + 1 + 1 + 1 + 1 + 1 + 1 + 1 + 1) :: (a, 2, m + 1 + 1) :: (m + 1 + 1, 2, m + 1 + 1 + 1 + 1 + 1) :: (m + 1 + 1, 1, m + 1 + 1 + 1) :: (m + 1 + 1 + 1, 0, m + 1 + 1 + 1 + 1) :: (a, 1, m + 1) :: (a, 0, m) :: l)) ∧ im' = (wI ks.length I0 (m + 1 + 1 + 1 + 1 + 1 + 1 + 1 + 1 + 1 + 1 + 1 + 1 + 1 + 1 + 1 + 1 + 1 + 1 + 1 + 1 + 1 + 1 + 1 + 1 + 1 + 1) (xup (xup (xup (xup (xup (xup (xup (xup (xup f (m + 1 + 1) 0 0) (m + 1 + 1 + 1 + 1 + 1 + 1) 0 1) (a) 9 1) (m + 1 + 1 + 1 + 1 + 1 + 1 + 1 + 1 + 1 + 1 + 1 + 1 + 1 + 1) 2 1) (m + 1 + 1 + 1 + 1 + 1 + 1 + 1 + 1 + 1 + 1 + 1 + 1 + 1 + 1 + 1) 2 1) (m + 1 + 1 + 1 + 1 + 1 + 1 + 1 + 1 + 1 + 1 + 1 + 1 + 1 + 1 + 1 + 1) 2 1) (m + 1 + 1 + 1 + 1 + 1 + 1 + 1 + 1 + 1 + 1 + 1 + 1 + 1 + 1 + 1 + 1 + 1) 2 1) (m + 1 + 1 + 1 + 1 + 1 + 1 + 1 + 1 + 1 + 1 + 1 + 1 + 1 + 1 + 1 + 1 + 1 + 1) 2 1) (m + 1 + 1 + 1 + 1 + 1 + 1 + 1 + 1 + 1 + 1 + 1 + 1 + 1 + 1 + 1 + 1 + 1 + 1 + 1) 2 1))) := by
  refine SpC.of [some (.ref (ks.length + a)), none] rfl (by decide) rfl (fun Q hQ => ?_)
  have ham := K_lt hm hk
  refine bX2_init_0 ?_
  refine bX2_init_4 (b1 := (25, 388)) ⟨by decide, by decide⟩ (by rw [wW_push rfl hm (hl _ (Nat.le_refl _))]; exact wW_get (K_old hk)) ?_
  rw [wW_pr rfl hm (hl _ (Nat.le_refl _)), wW_len hm, wI_z (hf _ (Nat.le_refl _))]
  have hm1_ := K_len (k := (.inr (.inr (0, 6)) : XK)) hm
  have hl1_ := rf_s (n := m + 1) hl (by omega)
  have hf1_ := f_s (n := m + 1) hf (by omega)
  have hl2_ := rf_c (a := a) (k := 0) (v := m) hl1_ (by omega)
  have hv3_ : rfT ((a, 0, m) :: l) (a) 0 = some (m) := rf_at
  refine bX2_init_13 (b1 := (24, 382)) ⟨by decide, by decide⟩ (by rw [wW_push rfl hm1_ (hl2_ _ (Nat.le_refl _))]; exact wW_get (K_old (K_old hk))) ?_
  rw [wW_pr rfl hm1_ (hl2_ _ (Nat.le_refl _)), wW_len hm1_, wI_z (hf1_ _ (Nat.le_refl _))]
  have hm4_ := K_len (k := (.inr (.inr (1, 6)) : XK)) hm1_
  have hl4_ := rf_s (n := m + 1 + 1) hl2_ (by omega)
  have hf4_ := f_s (n := m + 1 + 1) hf1_ (by omega)
  have hl5_ := rf_c (a := a) (k := 1) (v := m + 1) hl4_ (by omega)
  have hv6_ := rf_n (a1 := a) (k1 := 1) (v1 := m + 1) hv3_ (by omega)
  have hv7_ : rfT ((a, 1, m + 1) :: (a, 0, m) :: l) (a) 1 = some (m + 1) := rf_at
  refine bX2_init_22 (b1 := (23, 378)) (bc := (3, 122)) (be := (20, 256)) ⟨by decide, by decide⟩ (by
    rw [wW_push rfl hm4_ (hl5_ _ (Nat.le_refl _)), wW_len hm4_, wI_z (hf4_ _ (Nat.le_refl _))]
    exact pX3_init (a := m + 1 + 1) (m := m + 1 + 1 + 1) (K_last hm4_) (K_len hm4_) (rf_s hl5_ (by omega)) (f_s hf4_ (by omega))) ⟨by decide, by decide⟩ ?_ ?_
  · rintro _ _ ⟨rfl, rfl⟩
    rw [wW_push rfl hm4_ (hl5_ _ (Nat.le_refl _))]
    show (ks ++ _).length = (ks ++ _).length + _
    simp only [List.length_append, List.length_cons, List.length_nil]
    try omega
  rintro _ _ ⟨rfl, rfl⟩
  rw [wW_len hm4_]
  have hm8_ := K_len (k := (.inl 3 : XK)) hm4_
  have hl8_ := rf_s (n := m + 1 + 1 + 1) hl5_ (by omega)
  have hf8_ := f_s (n := m + 1 + 1 + 1) hf4_ (by omega)
  have hm9_ := K_len (k := (.inl 6 : XK)) hm8_
  have hl9_ := rf_s (n := m + 1 + 1 + 1 + 1) hl8_ (by omega)
  have hf9_ := f_s (n := m + 1 + 1 + 1 + 1) hf8_ (by omega)
  have hm10_ := K_len (k := (.inr (.inl 60) : XK)) hm9_
  have hl10_ := rf_s (n := m + 1 + 1 + 1 + 1 + 1) hl9_ (by omega)
  have hf10_ := f_s (n := m + 1 + 1 + 1 + 1 + 1) hf9_ (by omega)
  have hl11_ := rf_c (a := m + 1 + 1 + 1) (k := 0) (v := m + 1 + 1 + 1 + 1) hl10_ (by omega)
  have hv12_ := rf_n (a1 := m + 1 + 1 + 1) (k1 := 0) (v1 := m + 1 + 1 + 1 + 1) hv6_ (by omega)
  have hv13_ := rf_n (a1 := m + 1 + 1 + 1) (k1 := 0) (v1 := m + 1 + 1 + 1 + 1) hv7_ (by omega)
  have hl14_ := rf_c (a := m + 1 + 1) (k := 1) (v := m + 1 + 1 + 1) hl11_ (by omega)
  have hv15_ := rf_n (a1 := m + 1 + 1) (k1 := 1) (v1 := m + 1 + 1 + 1) hv12_ (by omega)
  have hv16_ := rf_n (a1 := m + 1 + 1) (k1 := 1) (v1 := m + 1 + 1 + 1) hv13_ (by omega)
  have hm17_ := K_len (k := (.inr (.inl 60) : XK)) hm10_
  have hl17_ := rf_s (n := m + 1 + 1 + 1 + 1 + 1 + 1) hl14_ (by omega)
  have hf17_ := f_s (n := m + 1 + 1 + 1 + 1 + 1 + 1) hf10_ (by omega)
  have hl18_ := rf_c (a := m + 1 + 1) (k := 2) (v := m + 1 + 1 + 1 + 1 + 1) hl17_ (by omega)
  have hv19_ := rf_n (a1 := m + 1 + 1) (k1 := 2) (v1 := m + 1 + 1 + 1 + 1 + 1) hv15_ (by omega)
  have hv20_ := rf_n (a1 := m + 1 + 1) (k1 := 2) (v1 := m + 1 + 1 + 1 + 1 + 1) hv16_ (by omega)
  have hf21_ := f_u (a := m + 1 + 1) (k := 0) (v := 0) hf17_ (by omega)
  refine bX2_init_31 (wW_get (K_old (K_old (K_old (K_old (K_old (K_old hk))))))) ?_
  rw [wW_ref]
  have hl22_ := rf_c (a := a) (k := 2) (v := m + 1 + 1) hl18_ (by omega)
  have hv23_ := rf_n (a1 := a) (k1 := 2) (v1 := m + 1 + 1) hv19_ (by omega)
  have hv24_ := rf_n (a1 := a) (k1 := 2) (v1 := m + 1 + 1) hv20_ (by omega)
  refine bX2_init_34 (b1 := (19, 252)) (bc := (3, 122)) (be := (16, 130)) ⟨by decide, by decide⟩ (by
    rw [wW_push rfl hm17_ (hl22_ _ (Nat.le_refl _)), wW_len hm17_, wI_z (hf21_ _ (Nat.le_refl _))]
    exact pX3_init (a := m + 1 + 1 + 1 + 1 + 1 + 1) (m := m + 1 + 1 + 1 + 1 + 1 + 1 + 1) (K_last hm17_) (K_len hm17_) (rf_s hl22_ (by omega)) (f_s hf21_ (by omega))) ⟨by decide, by decide⟩ ?_ ?_
  · rintro _ _ ⟨rfl, rfl⟩
    rw [wW_push rfl hm17_ (hl22_ _ (Nat.le_refl _))]
    show (ks ++ _).length = (ks ++ _).length + _
    simp only [List.length_append, List.length_cons, List.length_nil]
    try omega
  rintro _ _ ⟨rfl, rfl⟩
  rw [wW_len hm17_]
  have hm25_ := K_len (k := (.inl 3 : XK)) hm17_
  have hl25_ := rf_s (n := m + 1 + 1 + 1 + 1 + 1 + 1 + 1) hl22_ (by omega)
  have hf25_ := f_s (n := m + 1 + 1 + 1 + 1 + 1 + 1 + 1) hf21_ (by omega)
  have hm26_ := K_len (k := (.inl 6 : XK)) hm25_
  have hl26_ := rf_s (n := m + 1 + 1 + 1 + 1 + 1 + 1 + 1 + 1) hl25_ (by omega)
  have hf26_ := f_s (n := m + 1 + 1 + 1 + 1 + 1 + 1 + 1 + 1) hf25_ (by omega)
  have hm27_ := K_len (k := (.inr (.inl 60) : XK)) hm26_
  have hl27_ := rf_s (n := m + 1 + 1 + 1 + 1 + 1 + 1 + 1 + 1 + 1) hl26_ (by omega)
  have hf27_ := f_s (n := m + 1 + 1 + 1 + 1 + 1 + 1 + 1 + 1 + 1) hf26_ (by omega)
  have hl28_ := rf_c (a := m + 1 + 1 + 1 + 1 + 1 + 1 + 1) (k := 0) (v := m + 1 + 1 + 1 + 1 + 1 + 1 + 1 + 1) hl27_ (by omega)
  have hv29_ := rf_n (a1 := m + 1 + 1 + 1 + 1 + 1 + 1 + 1) (k1 := 0) (v1 := m + 1 + 1 + 1 + 1 + 1 + 1 + 1 + 1) hv23_ (by omega)
  have hv30_ := rf_n (a1 := m + 1 + 1 + 1 + 1 + 1 + 1 + 1) (k1 := 0) (v1 := m + 1 + 1 + 1 + 1 + 1 + 1 + 1 + 1) hv24_ (by omega)
  have hl31_ := rf_c (a := m + 1 + 1 + 1 + 1 + 1 + 1) (k := 1) (v := m + 1 + 1 + 1 + 1 + 1 + 1 + 1) hl28_ (by omega)
  have hv32_ := rf_n (a1 := m + 1 + 1 + 1 + 1 + 1 + 1) (k1 := 1) (v1 := m + 1 + 1 + 1 + 1 + 1 + 1 + 1) hv29_ (by omega)
  have hv33_ := rf_n (a1 := m + 1 + 1 + 1 + 1 + 1 + 1) (k1 := 1) (v1 := m + 1 + 1 + 1 + 1 + 1 + 1 + 1) hv30_ (by omega)
  have hm34_ := K_len (k := (.inr (.inl 60) : XK)) hm27_
  have hl34_ := rf_s (n := m + 1 + 1 + 1 + 1 + 1 + 1 + 1 + 1 + 1 + 1) hl31_ (by omega)
  have hf34_ := f_s (n := m + 1 + 1 + 1 + 1 + 1 + 1 + 1 + 1 + 1 + 1) hf27_ (by omega)
  have hl35_ := rf_c (a := m + 1 + 1 + 1 + 1 + 1 + 1) (k := 2) (v := m + 1 + 1 + 1 + 1 + 1 + 1 + 1 + 1 + 1) hl34_ (by omega)
  have hv36_ := rf_n (a1 := m + 1 + 1 + 1 + 1 + 1 + 1) (k1 := 2) (v1 := m + 1 + 1 + 1 + 1 + 1 + 1 + 1 + 1 + 1) hv32_ (by omega)
  have hv37_ := rf_n (a1 := m + 1 + 1 + 1 + 1 + 1 + 1) (k1 := 2) (v1 := m + 1 + 1 + 1 + 1 + 1 + 1 + 1 + 1 + 1) hv33_ (by omega)
  have hf38_ := f_u (a := m + 1 + 1 + 1 + 1 + 1 + 1) (k := 0) (v := 1) hf34_ (by omega)
  refine bX2_init_43 (wW_get (K_old (K_old (K_old (K_old (K_old (K_old (K_old (K_old (K_old (K_old hk))))))))))) ?_
  rw [wW_ref]
  have hl39_ := rf_c (a := a) (k := 3) (v := m + 1 + 1 + 1 + 1 + 1 + 1) hl35_ (by omega)
  have hv40_ := rf_n (a1 := a) (k1 := 3) (v1 := m + 1 + 1 + 1 + 1 + 1 + 1) hv36_ (by omega)
  have hv41_ := rf_n (a1 := a) (k1 := 3) (v1 := m + 1 + 1 + 1 + 1 + 1 + 1) hv37_ (by omega)
  refine bX2_init_46 (b1 := (15, 128)) (bc := (1, 60)) (be := (14, 68)) ⟨by decide, by decide⟩ (by
    rw [wW_push rfl hm34_ (hl39_ _ (Nat.le_refl _)), wW_len hm34_, wI_z (hf38_ _ (Nat.le_refl _))]
    exact pX6_init (a := m + 1 + 1 + 1 + 1 + 1 + 1 + 1 + 1 + 1 + 1) (m := m + 1 + 1 + 1 + 1 + 1 + 1 + 1 + 1 + 1 + 1 + 1) (n := 60) rfl (by omega) (K_last hm34_) (K_len hm34_) (rf_s hl39_ (by omega)) (f_s hf38_ (by omega))) ⟨by decide, by decide⟩ ?_ ?_
  · rintro _ _ ⟨rfl, rfl⟩
    rw [wW_push rfl hm34_ (hl39_ _ (Nat.le_refl _))]
    show (ks ++ _).length = (ks ++ _).length + _
    simp only [List.length_append, List.length_cons, List.length_nil]
    try omega
  rintro _ _ ⟨rfl, rfl⟩
  rw [wW_len hm34_]
  have hm42_ := K_len (k := (.inl 6 : XK)) hm34_
  have hl42_ := rf_s (n := m + 1 + 1 + 1 + 1 + 1 + 1 + 1 + 1 + 1 + 1 + 1) hl39_ (by omega)
  have hf42_ := f_s (n := m + 1 + 1 + 1 + 1 + 1 + 1 + 1 + 1 + 1 + 1 + 1) hf38_ (by omega)
  have hm43_ := K_len (k := (.inr (.inl 60) : XK)) hm42_
  have hl43_ := rf_s (n := m + 1 + 1 + 1 + 1 + 1 + 1 + 1 + 1 + 1 + 1 + 1 + 1) hl42_ (by omega)
  have hf43_ := f_s (n := m + 1 + 1 + 1 + 1 + 1 + 1 + 1 + 1 + 1 + 1 + 1 + 1) hf42_ (by omega)
  have hl44_ := rf_c (a := m + 1 + 1 + 1 + 1 + 1 + 1 + 1 + 1 + 1 + 1) (k := 0) (v := m + 1 + 1 + 1 + 1 + 1 + 1 + 1 + 1 + 1 + 1 + 1) hl43_ (by omega)
  have hv45_ := rf_n (a1 := m + 1 + 1 + 1 + 1 + 1 + 1 + 1 + 1 + 1 + 1) (k1 := 0) (v1 := m + 1 + 1 + 1 + 1 + 1 + 1 + 1 + 1 + 1 + 1 + 1) hv40_ (by omega)
  have hv46_ := rf_n (a1 := m + 1 + 1 + 1 + 1 + 1 + 1 + 1 + 1 + 1 + 1) (k1 := 0) (v1 := m + 1 + 1 + 1 + 1 + 1 + 1 + 1 + 1 + 1 + 1 + 1) hv41_ (by omega)
  refine bX2_init_56 (wW_get (K_old (K_old (K_old (K_old (K_old (K_old (K_old (K_old (K_old (K_old (K_old (K_old hk))))))))))))) ?_
  rw [wW_ref]
  have hl47_ := rf_c (a := a) (k := 4) (v := m + 1 + 1 + 1 + 1 + 1 + 1 + 1 + 1 + 1 + 1) hl44_ (by omega)
  have hv48_ := rf_n (a1 := a) (k1 := 4) (v1 := m + 1 + 1 + 1 + 1 + 1 + 1 + 1 + 1 + 1 + 1) hv45_ (by omega)
  have hv49_ := rf_n (a1 := a) (k1 := 4) (v1 := m + 1 + 1 + 1 + 1 + 1 + 1 + 1 + 1 + 1 + 1) hv46_ (by omega)
  refine bX2_init_59 (b1 := (13, 66)) (bc := (1, 24)) (be := (12, 42)) ⟨by decide, by decide⟩ (by
    rw [wW_push rfl hm43_ (hl47_ _ (Nat.le_refl _)), wW_len hm43_, wI_z (hf43_ _ (Nat.le_refl _))]
    exact pX6_init (a := m + 1 + 1 + 1 + 1 + 1 + 1 + 1 + 1 + 1 + 1 + 1 + 1) (m := m + 1 + 1 + 1 + 1 + 1 + 1 + 1 + 1 + 1 + 1 + 1 + 1 + 1) (n := 24) rfl (by omega) (K_last hm43_) (K_len hm43_) (rf_s hl47_ (by omega)) (f_s hf43_ (by omega))) ⟨by decide, by decide⟩ ?_ ?_
  · rintro _ _ ⟨rfl, rfl⟩
    rw [wW_push rfl hm43_ (hl47_ _ (Nat.le_refl _))]
    show (ks ++ _).length = (ks ++ _).length + _
    simp only [List.length_append, List.length_cons, List.length_nil]
    try omega
  rintro _ _ ⟨rfl, rfl⟩
  rw [wW_len hm43_]
  have hm50_ := K_len (k := (.inl 6 : XK)) hm43_
  have hl50_ := rf_s (n := m + 1 + 1 + 1 + 1 + 1 + 1 + 1 + 1 + 1 + 1 + 1 + 1 + 1) hl47_ (by omega)
  have hf50_ := f_s (n := m + 1 + 1 + 1 + 1 + 1 + 1 + 1 + 1 + 1 + 1 + 1 + 1 + 1) hf43_ (by omega)
  have hm51_ := K_len (k := (.inr (.inl 24) : XK)) hm50_
  have hl51_ := rf_s (n := m + 1 + 1 + 1 + 1 + 1 + 1 + 1 + 1 + 1 + 1 + 1 + 1 + 1 + 1) hl50_ (by omega)
  have hf51_ := f_s (n := m + 1 + 1 + 1 + 1 + 1 + 1 + 1 + 1 + 1 + 1 + 1 + 1 + 1 + 1) hf50_ (by omega)
  have hl52_ := rf_c (a := m + 1 + 1 + 1 + 1 + 1 + 1 + 1 + 1 + 1 + 1 + 1 + 1) (k := 0) (v := m + 1 + 1 + 1 + 1 + 1 + 1 + 1 + 1 + 1 + 1 + 1 + 1 + 1) hl51_ (by omega)
  have hv53_ := rf_n (a1 := m + 1 + 1 + 1 + 1 + 1 + 1 + 1 + 1 + 1 + 1 + 1 + 1) (k1 := 0) (v1 := m + 1 + 1 + 1 + 1 + 1 + 1 + 1 + 1 + 1 + 1 + 1 + 1 + 1) hv48_ (by omega)
  have hv54_ := rf_n (a1 := m + 1 + 1 + 1 + 1 + 1 + 1 + 1 + 1 + 1 + 1 + 1 + 1) (k1 := 0) (v1 := m + 1 + 1 + 1 + 1 + 1 + 1 + 1 + 1 + 1 + 1 + 1 + 1 + 1) hv49_ (by omega)
  refine bX2_init_69 (wW_get (K_old (K_old (K_old (K_old (K_old (K_old (K_old (K_old (K_old (K_old (K_old (K_old (K_old (K_old hk))))))))))))))) ?_
  rw [wW_ref]
  have hl55_ := rf_c (a := a) (k := 5) (v := m + 1 + 1 + 1 + 1 + 1 + 1 + 1 + 1 + 1 + 1 + 1 + 1) hl52_ (by omega)
  have hv56_ := rf_n (a1 := a) (k1 := 5) (v1 := m + 1 + 1 + 1 + 1 + 1 + 1 + 1 + 1 + 1 + 1 + 1 + 1) hv53_ (by omega)
  have hv57_ := rf_n (a1 := a) (k1 := 5) (v1 := m + 1 + 1 + 1 + 1 + 1 + 1 + 1 + 1 + 1 + 1 + 1 + 1) hv54_ (by omega)
  refine bX2_init_72 (wW_get (K_old (K_old (K_old (K_old (K_old (K_old (K_old (K_old (K_old (K_old (K_old (K_old (K_old (K_old hk))))))))))))))) ?_
  rw [wI_u (by omega)]
  have hf58_ := f_u (a := a) (k := 9) (v := 1) hf51_ (by omega)
  refine bX2_init_77 ?_
  refine bX2_init_79 (fun c => absurd c (by decide)) (fun _ => ?_)
  refine bX2_init_85 (b1 := (11, 38)) (bc := (0, 0)) (be := (11, 38)) (wW_get (K_old (K_old (K_old (K_old (K_old (K_old (K_old (K_old (K_old (K_old (K_old (K_old (K_old (K_old hk))))))))))))))) (wW_val (v := m) hv56_) ⟨by decide, by decide⟩ (by
    rw [wW_push rfl hm51_ (hl55_ _ (Nat.le_refl _)), wW_len hm51_, wI_z (hf58_ _ (Nat.le_refl _))]
    exact pX4_init (a := m + 1 + 1 + 1 + 1 + 1 + 1 + 1 + 1 + 1 + 1 + 1 + 1 + 1 + 1) (m := m + 1 + 1 + 1 + 1 + 1 + 1 + 1 + 1 + 1 + 1 + 1 + 1 + 1 + 1 + 1) (K_last hm51_) (by omega)) ⟨by decide, by decide⟩ ?_ ?_
  · rintro _ _ ⟨rfl, rfl⟩
    rw [wW_push rfl hm51_ (hl55_ _ (Nat.le_refl _))]
    show (ks ++ _).length = (ks ++ _).length + _
    simp only [List.length_append, List.length_cons, List.length_nil]
    try omega
  rintro _ _ ⟨rfl, rfl⟩
  rw [wW_len hm51_]
  have hm59_ := K_len (k := (.inl 4 : XK)) hm51_
  have hl59_ := rf_s (n := m + 1 + 1 + 1 + 1 + 1 + 1 + 1 + 1 + 1 + 1 + 1 + 1 + 1 + 1 + 1) hl55_ (by omega)
  have hf59_ := f_s (n := m + 1 + 1 + 1 + 1 + 1 + 1 + 1 + 1 + 1 + 1 + 1 + 1 + 1 + 1 + 1) hf58_ (by omega)
  have hf60_ := f_u (a := m + 1 + 1 + 1 + 1 + 1 + 1 + 1 + 1 + 1 + 1 + 1 + 1 + 1 + 1) (k := 2) (v := 1) hf59_ (by omega)
  refine bX2_init_97 (n1 := 6) (i2 := 0) ⟨wW_get (K_old (K_old (K_old (K_old (K_old (K_old (K_old (K_old (K_old (K_old (K_old (K_old (K_old (K_old (K_last (k := (.inr (.inr (0, 6)) : XK)) hm))))))))))))))), rfl, rfl⟩ rfl (by decide) (wW_get (K_last hm51_)) ?_
  rw [wW_ref]
  have hl61_ := rf_c (a := m) (k := 0) (v := m + 1 + 1 + 1 + 1 + 1 + 1 + 1 + 1 + 1 + 1 + 1 + 1 + 1 + 1) hl59_ (by omega)
  have hv62_ := rf_n (a1 := m) (k1 := 0) (v1 := m + 1 + 1 + 1 + 1 + 1 + 1 + 1 + 1 + 1 + 1 + 1 + 1 + 1 + 1) hv56_ (by omega)
  have hv63_ := rf_n (a1 := m) (k1 := 0) (v1 := m + 1 + 1 + 1 + 1 + 1 + 1 + 1 + 1 + 1 + 1 + 1 + 1 + 1 + 1) hv57_ (by omega)
  refine bX2_init_98 ?_
  refine bX2_init_79 (fun c => absurd c (by decide)) (fun _ => ?_)
  refine bX2_init_85 (b1 := (10, 34)) (bc := (0, 0)) (be := (10, 34)) (wW_get (K_old (K_old (K_old (K_old (K_old (K_old (K_old (K_old (K_old (K_old (K_old (K_old (K_old (K_old (K_old hk)))))))))))))))) (wW_val (v := m) hv62_) ⟨by decide, by decide⟩ (by
    rw [wW_push rfl hm59_ (hl61_ _ (Nat.le_refl _)), wW_len hm59_, wI_z (hf60_ _ (Nat.le_refl _))]
    exact pX4_init (a := m + 1 + 1 + 1 + 1 + 1 + 1 + 1 + 1 + 1 + 1 + 1 + 1 + 1 + 1 + 1) (m := m + 1 + 1 + 1 + 1 + 1 + 1 + 1 + 1 + 1 + 1 + 1 + 1 + 1 + 1 + 1 + 1) (K_last hm59_) (by omega)) ⟨by decide, by decide⟩ ?_ ?_
  · rintro _ _ ⟨rfl, rfl⟩
    rw [wW_push rfl hm59_ (hl61_ _ (Nat.le_refl _))]
    show (ks ++ _).length = (ks ++ _).length + _
    simp only [List.length_append, List.length_cons, List.length_nil]
    try omega
  rintro _ _ ⟨rfl, rfl⟩
  rw [wW_len hm59_]
  have hm64_ := K_len (k := (.inl 4 : XK)) hm59_
  have hl64_ := rf_s (n := m + 1 + 1 + 1 + 1 + 1 + 1 + 1 + 1 + 1 + 1 + 1 + 1 + 1 + 1 + 1 + 1) hl61_ (by omega)
  have hf64_ := f_s (n := m + 1 + 1 + 1 + 1 + 1 + 1 + 1 + 1 + 1 + 1 + 1 + 1 + 1 + 1 + 1 + 1) hf60_ (by omega)
  have hf65_ := f_u (a := m + 1 + 1 + 1 + 1 + 1 + 1 + 1 + 1 + 1 + 1 + 1 + 1 + 1 + 1 + 1) (k := 2) (v := 1) hf64_ (by omega)
  refine bX2_init_97 (n1 := 6) (i2 := 1) ⟨wW_get (K_old (K_old (K_old (K_old (K_old (K_old (K_old (K_old (K_old (K_old (K_old (K_old (K_old (K_old (K_old (K_last (k := (.inr (.inr (0, 6)) : XK)) hm)))))))))))))))), rfl, rfl⟩ rfl (by decide) (wW_get (K_last hm59_)) ?_
  rw [wW_ref]
  have hl66_ := rf_c (a := m) (k := 1) (v := m + 1 + 1 + 1 + 1 + 1 + 1 + 1 + 1 + 1 + 1 + 1 + 1 + 1 + 1 + 1) hl64_ (by omega)
  have hv67_ := rf_n (a1 := m) (k1 := 1) (v1 := m + 1 + 1 + 1 + 1 + 1 + 1 + 1 + 1 + 1 + 1 + 1 + 1 + 1 + 1 + 1) hv62_ (by omega)
  have hv68_ := rf_n (a1 := m) (k1 := 1) (v1 := m + 1 + 1 + 1 + 1 + 1 + 1 + 1 + 1 + 1 + 1 + 1 + 1 + 1 + 1 + 1) hv63_ (by omega)
  refine bX2_init_98 ?_
  refine bX2_init_79 (fun c => absurd c (by decide)) (fun _ => ?_)
  refine bX2_init_85 (b1 := (9, 30)) (bc := (0, 0)) (be := (9, 30)) (wW_get (K_old (K_old (K_old (K_old (K_old (K_old (K_old (K_old (K_old (K_old (K_old (K_old (K_old (K_old (K_old (K_old hk))))))))))))))))) (wW_val (v := m) hv67_) ⟨by decide, by decide⟩ (by
    rw [wW_push rfl hm64_ (hl66_ _ (Nat.le_refl _)), wW_len hm64_, wI_z (hf65_ _ (Nat.le_refl _))]
    exact pX4_init (a := m + 1 + 1 + 1 + 1 + 1 + 1 + 1 + 1 + 1 + 1 + 1 + 1 + 1 + 1 + 1 + 1) (m := m + 1 + 1 + 1 + 1 + 1 + 1 + 1 + 1 + 1 + 1 + 1 + 1 + 1 + 1 + 1 + 1 + 1) (K_last hm64_) (by omega)) ⟨by decide, by decide⟩ ?_ ?_
  · rintro _ _ ⟨rfl, rfl⟩
    rw [wW_push rfl hm64_ (hl66_ _ (Nat.le_refl _))]
    show (ks ++ _).length = (ks ++ _).length + _
    simp only [List.length_append, List.length_cons, List.length_nil]
    try omega
  rintro _ _ ⟨rfl, rfl⟩
  rw [wW_len hm64_]
  have hm69_ := K_len (k := (.inl 4 : XK)) hm64_
  have hl69_ := rf_s (n := m + 1 + 1 + 1 + 1 + 1 + 1 + 1 + 1 + 1 + 1 + 1 + 1 + 1 + 1 + 1 + 1 + 1) hl66_ (by omega)
  have hf69_ := f_s (n := m + 1 + 1 + 1 + 1 + 1 + 1 + 1 + 1 + 1 + 1 + 1 + 1 + 1 + 1 + 1 + 1 + 1) hf65_ (by omega)
  have hf70_ := f_u (a := m + 1 + 1 + 1 + 1 + 1 + 1 + 1 + 1 + 1 + 1 + 1 + 1 + 1 + 1 + 1 + 1) (k := 2) (v := 1) hf69_ (by omega)
  refine bX2_init_97 (n1 := 6) (i2 := 2) ⟨wW_get (K_old (K_old (K_old (K_old (K_old (K_old (K_old (K_old (K_old (K_old (K_old (K_old (K_old (K_old (K_old (K_old (K_last (k := (.inr (.inr (0, 6)) : XK)) hm))))))))))))))))), rfl, rfl⟩ rfl (by decide) (wW_get (K_last hm64_)) ?_
  rw [wW_ref]
  have hl71_ := rf_c (a := m) (k := 2) (v := m + 1 + 1 + 1 + 1 + 1 + 1 + 1 + 1 + 1 + 1 + 1 + 1 + 1 + 1 + 1 + 1) hl69_ (by omega)
  have hv72_ := rf_n (a1 := m) (k1 := 2) (v1 := m + 1 + 1 + 1 + 1 + 1 + 1 + 1 + 1 + 1 + 1 + 1 + 1 + 1 + 1 + 1 + 1) hv67_ (by omega)
  have hv73_ := rf_n (a1 := m) (k1 := 2) (v1 := m + 1 + 1 + 1 + 1 + 1 + 1 + 1 + 1 + 1 + 1 + 1 + 1 + 1 + 1 + 1 + 1) hv68_ (by omega)
  refine bX2_init_98 ?_
  refine bX2_init_79 (fun c => absurd c (by decide)) (fun _ => ?_)
  refine bX2_init_85 (b1 := (8, 26)) (bc := (0, 0)) (be := (8, 26)) (wW_get (K_old (K_old (K_old (K_old (K_old (K_old (K_old (K_old (K_old (K_old (K_old (K_old (K_old (K_old (K_old (K_old (K_old hk)))))))))))))))))) (wW_val (v := m) hv72_) ⟨by decide, by decide⟩ (by
    rw [wW_push rfl hm69_ (hl71_ _ (Nat.le_refl _)), wW_len hm69_, wI_z (hf70_ _ (Nat.le_refl _))]
    exact pX4_init (a := m + 1 + 1 + 1 + 1 + 1 + 1 + 1 + 1 + 1 + 1 + 1 + 1 + 1 + 1 + 1 + 1 + 1) (m := m + 1 + 1 + 1 + 1 + 1 + 1 + 1 + 1 + 1 + 1 + 1 + 1 + 1 + 1 + 1 + 1 + 1 + 1) (K_last hm69_) (by omega)) ⟨by decide, by decide⟩ ?_ ?_
  · rintro _ _ ⟨rfl, rfl⟩
    rw [wW_push rfl hm69_ (hl71_ _ (Nat.le_refl _))]
    show (ks ++ _).length = (ks ++ _).length + _
    simp only [List.length_append, List.length_cons, List.length_nil]
    try omega
  rintro _ _ ⟨rfl, rfl⟩
  rw [wW_len hm69_]
  have hm74_ := K_len (k := (.inl 4 : XK)) hm69_
  have hl74_ := rf_s (n := m + 1 + 1 + 1 + 1 + 1 + 1 + 1 + 1 + 1 + 1 + 1 + 1 + 1 + 1 + 1 + 1 + 1 + 1) hl71_ (by omega)
  have hf74_ := f_s (n := m + 1 + 1 + 1 + 1 + 1 + 1 + 1 + 1 + 1 + 1 + 1 + 1 + 1 + 1 + 1 + 1 + 1 + 1) hf70_ (by omega)
  have hf75_ := f_u (a := m + 1 + 1 + 1 + 1 + 1 + 1 + 1 + 1 + 1 + 1 + 1 + 1 + 1 + 1 + 1 + 1 + 1) (k := 2) (v := 1) hf74_ (by omega)
  refine bX2_init_97 (n1 := 6) (i2 := 3) ⟨wW_get (K_old (K_old (K_old (K_old (K_old (K_old (K_old (K_old (K_old (K_old (K_old (K_old (K_old (K_old (K_old (K_old (K_old (K_last (k := (.inr (.inr (0, 6)) : XK)) hm)))))))))))))))))), rfl, rfl⟩ rfl (by decide) (wW_get (K_last hm69_)) ?_
  rw [wW_ref]
  have hl76_ := rf_c (a := m) (k := 3) (v := m + 1 + 1 + 1 + 1 + 1 + 1 + 1 + 1 + 1 + 1 + 1 + 1 + 1 + 1 + 1 + 1 + 1) hl74_ (by omega)
  have hv77_ := rf_n (a1 := m) (k1 := 3) (v1 := m + 1 + 1 + 1 + 1 + 1 + 1 + 1 + 1 + 1 + 1 + 1 + 1 + 1 + 1 + 1 + 1 + 1) hv72_ (by omega)
  have hv78_ := rf_n (a1 := m) (k1 := 3) (v1 := m + 1 + 1 + 1 + 1 + 1 + 1 + 1 + 1 + 1 + 1 + 1 + 1 + 1 + 1 + 1 + 1 + 1) hv73_ (by omega)
  refine bX2_init_98 ?_
  refine bX2_init_79 (fun c => absurd c (by decide)) (fun _ => ?_)
  refine bX2_init_85 (b1 := (7, 22)) (bc := (0, 0)) (be := (7, 22)) (wW_get (K_old (K_old (K_old (K_old (K_old (K_old (K_old (K_old (K_old (K_old (K_old (K_old (K_old (K_old (K_old (K_old (K_old (K_old hk))))))))))))))))))) (wW_val (v := m) hv77_) ⟨by decide, by decide⟩ (by
    rw [wW_push rfl hm74_ (hl76_ _ (Nat.le_refl _)), wW_len hm74_, wI_z (hf75_ _ (Nat.le_refl _))]
    exact pX4_init (a := m + 1 + 1 + 1 + 1 + 1 + 1 + 1 + 1 + 1 + 1 + 1 + 1 + 1 + 1 + 1 + 1 + 1 + 1) (m := m + 1 + 1 + 1 + 1 + 1 + 1 + 1 + 1 + 1 + 1 + 1 + 1 + 1 + 1 + 1 + 1 + 1 + 1 + 1) (K_last hm74_) (by omega)) ⟨by decide, by decide⟩ ?_ ?_
  · rintro _ _ ⟨rfl, rfl⟩
    rw [wW_push rfl hm74_ (hl76_ _ (Nat.le_refl _))]
    show (ks ++ _).length = (ks ++ _).length + _
    simp only [List.length_append, List.length_cons, List.length_nil]
    try omega
  rintro _ _ ⟨rfl, rfl⟩
  rw [wW_len hm74_]
  have hm79_ := K_len (k := (.inl 4 : XK)) hm74_
  have hl79_ := rf_s (n := m + 1 + 1 + 1 + 1 + 1 + 1 + 1 + 1 + 1 + 1 + 1 + 1 + 1 + 1 + 1 + 1 + 1 + 1 + 1) hl76_ (by omega)
  have hf79_ := f_s (n := m + 1 + 1 + 1 + 1 + 1 + 1 + 1 + 1 + 1 + 1 + 1 + 1 + 1 + 1 + 1 + 1 + 1 + 1 + 1) hf75_ (by omega)
  have hf80_ := f_u (a := m + 1 + 1 + 1 + 1 + 1 + 1 + 1 + 1 + 1 + 1 + 1 + 1 + 1 + 1 + 1 + 1 + 1 + 1) (k := 2) (v := 1) hf79_ (by omega)
  refine bX2_init_97 (n1 := 6) (i2 := 4) ⟨wW_get (K_old (K_old (K_old (K_old (K_old (K_old (K_old (K_old (K_old (K_old (K_old (K_old (K_old (K_old (K_old (K_old (K_old (K_old (K_last (k := (.inr (.inr (0, 6)) : XK)) hm))))))))))))))))))), rfl, rfl⟩ rfl (by decide) (wW_get (K_last hm74_)) ?_
  rw [wW_ref]
  have hl81_ := rf_c (a := m) (k := 4) (v := m + 1 + 1 + 1 + 1 + 1 + 1 + 1 + 1 + 1 + 1 + 1 + 1 + 1 + 1 + 1 + 1 + 1 + 1) hl79_ (by omega)
  have hv82_ := rf_n (a1 := m) (k1 := 4) (v1 := m + 1 + 1 + 1 + 1 + 1 + 1 + 1 + 1 + 1 + 1 + 1 + 1 + 1 + 1 + 1 + 1 + 1 + 1) hv77_ (by omega)
  have hv83_ := rf_n (a1 := m) (k1 := 4) (v1 := m + 1 + 1 + 1 + 1 + 1 + 1 + 1 + 1 + 1 + 1 + 1 + 1 + 1 + 1 + 1 + 1 + 1 + 1) hv78_ (by omega)
  refine bX2_init_98 ?_
  refine bX2_init_79 (fun c => absurd c (by decide)) (fun _ => ?_)
  refine bX2_init_85 (b1 := (6, 18)) (bc := (0, 0)) (be := (6, 18)) (wW_get (K_old (K_old (K_old (K_old (K_old (K_old (K_old (K_old (K_old (K_old (K_old (K_old (K_old (K_old (K_old (K_old (K_old (K_old (K_old hk)))))))))))))))))))) (wW_val (v := m) hv82_) ⟨by decide, by decide⟩ (by
    rw [wW_push rfl hm79_ (hl81_ _ (Nat.le_refl _)), wW_len hm79_, wI_z (hf80_ _ (Nat.le_refl _))]
    exact pX4_init (a := m + 1 + 1 + 1 + 1 + 1 + 1 + 1 + 1 + 1 + 1 + 1 + 1 + 1 + 1 + 1 + 1 + 1 + 1 + 1) (m := m + 1 + 1 + 1 + 1 + 1 + 1 + 1 + 1 + 1 + 1 + 1 + 1 + 1 + 1 + 1 + 1 + 1 + 1 + 1 + 1) (K_last hm79_) (by omega)) ⟨by decide, by decide⟩ ?_ ?_
  · rintro _ _ ⟨rfl, rfl⟩
    rw [wW_push rfl hm79_ (hl81_ _ (Nat.le_refl _))]
    show (ks ++ _).length = (ks ++ _).length + _
    simp only [List.length_append, List.length_cons, List.length_nil]
    try omega
  rintro _ _ ⟨rfl, rfl⟩
  rw [wW_len hm79_]
  have hm84_ := K_len (k := (.inl 4 : XK)) hm79_
  have hl84_ := rf_s (n := m + 1 + 1 + 1 + 1 + 1 + 1 + 1 + 1 + 1 + 1 + 1 + 1 + 1 + 1 + 1 + 1 + 1 + 1 + 1 + 1) hl81_ (by omega)
  have hf84_ := f_s (n := m + 1 + 1 + 1 + 1 + 1 + 1 + 1 + 1 + 1 + 1 + 1 + 1 + 1 + 1 + 1 + 1 + 1 + 1 + 1 + 1) hf80_ (by omega)
  have hf85_ := f_u (a := m + 1 + 1 + 1 + 1 + 1 + 1 + 1 + 1 + 1 + 1 + 1 + 1 + 1 + 1 + 1 + 1 + 1 + 1 + 1) (k := 2) (v := 1) hf84_ (by omega)
  refine bX2_init_97 (n1 := 6) (i2 := 5) ⟨wW_get (K_old (K_old (K_old (K_old (K_old (K_old (K_old (K_old (K_old (K_old (K_old (K_old (K_old (K_old (K_old (K_old (K_old (K_old (K_old (K_last (k := (.inr (.inr (0, 6)) : XK)) hm)))))))))))))))))))), rfl, rfl⟩ rfl (by decide) (wW_get (K_last hm79_)) ?_
  rw [wW_ref]
  have hl86_ := rf_c (a := m) (k := 5) (v := m + 1 + 1 + 1 + 1 + 1 + 1 + 1 + 1 + 1 + 1 + 1 + 1 + 1 + 1 + 1 + 1 + 1 + 1 + 1) hl84_ (by omega)
  have hv87_ := rf_n (a1 := m) (k1 := 5) (v1 := m + 1 + 1 + 1 + 1 + 1 + 1 + 1 + 1 + 1 + 1 + 1 + 1 + 1 + 1 + 1 + 1 + 1 + 1 + 1) hv82_ (by omega)
  have hv88_ := rf_n (a1 := m) (k1 := 5) (v1 := m + 1 + 1 + 1 + 1 + 1 + 1 + 1 + 1 + 1 + 1 + 1 + 1 + 1 + 1 + 1 + 1 + 1 + 1 + 1) hv83_ (by omega)
  refine bX2_init_98 ?_
  refine bX2_init_79 (fun _ => ?_) (fun c => absurd (by decide) c)
  refine bX2_init_104 ?_
  refine bX2_init_106 (fun c => absurd c (by decide)) (fun _ => ?_)
  refine bX2_init_112 (b1 := (5, 15)) (bc := (0, 0)) (be := (5, 15)) (wW_get (K_old (K_old (K_old (K_old (K_old (K_old (K_old (K_old (K_old (K_old (K_old (K_old (K_old (K_old (K_old (K_old (K_old (K_old (K_old (K_old hk))))))))))))))))))))) (wW_val (v := m + 1) hv88_) ⟨by decide, by decide⟩ (by
    rw [wW_push rfl hm84_ (hl86_ _ (Nat.le_refl _)), wW_len hm84_, wI_z (hf85_ _ (Nat.le_refl _))]
    exact pX0_init) ⟨by decide, by decide⟩ ?_ ?_
  · rintro _ _ ⟨rfl, rfl⟩
    rw [wW_push rfl hm84_ (hl86_ _ (Nat.le_refl _))]
    show (ks ++ _).length = (ks ++ _).length + _
    simp only [List.length_append, List.length_cons, List.length_nil]
    try omega
  rintro _ _ ⟨rfl, rfl⟩
  rw [wW_len hm84_]
  have hm89_ := K_len (k := (.inl 0 : XK)) hm84_
  have hl89_ := rf_s (n := m + 1 + 1 + 1 + 1 + 1 + 1 + 1 + 1 + 1 + 1 + 1 + 1 + 1 + 1 + 1 + 1 + 1 + 1 + 1 + 1 + 1) hl86_ (by omega)
  have hf89_ := f_s (n := m + 1 + 1 + 1 + 1 + 1 + 1 + 1 + 1 + 1 + 1 + 1 + 1 + 1 + 1 + 1 + 1 + 1 + 1 + 1 + 1 + 1) hf85_ (by omega)
  refine bX2_init_124 (n1 := 6) (i2 := 0) ⟨wW_get (K_old (K_old (K_old (K_old (K_old (K_old (K_old (K_old (K_old (K_old (K_old (K_old (K_old (K_old (K_old (K_old (K_old (K_old (K_old (K_last (k := (.inr (.inr (1, 6)) : XK)) hm1_)))))))))))))))))))), rfl, rfl⟩ rfl (by decide) (wW_get (K_last hm84_)) ?_
  rw [wW_ref]
  have hl90_ := rf_c (a := m + 1) (k := 0) (v := m + 1 + 1 + 1 + 1 + 1 + 1 + 1 + 1 + 1 + 1 + 1 + 1 + 1 + 1 + 1 + 1 + 1 + 1 + 1 + 1) hl89_ (by omega)
  have hv91_ := rf_n (a1 := m + 1) (k1 := 0) (v1 := m + 1 + 1 + 1 + 1 + 1 + 1 + 1 + 1 + 1 + 1 + 1 + 1 + 1 + 1 + 1 + 1 + 1 + 1 + 1 + 1) hv87_ (by omega)
  have hv92_ := rf_n (a1 := m + 1) (k1 := 0) (v1 := m + 1 + 1 + 1 + 1 + 1 + 1 + 1 + 1 + 1 + 1 + 1 + 1 + 1 + 1 + 1 + 1 + 1 + 1 + 1 + 1) hv88_ (by omega)
  refine bX2_init_125 ?_
  refine bX2_init_106 (fun c => absurd c (by decide)) (fun _ => ?_)
  refine bX2_init_112 (b1 := (4, 12)) (bc := (0, 0)) (be := (4, 12)) (wW_get (K_old (K_old (K_old (K_old (K_old (K_old (K_old (K_old (K_old (K_old (K_old (K_old (K_old (K_old (K_old (K_old (K_old (K_old (K_old (K_old (K_old hk)))))))))))))))))))))) (wW_val (v := m + 1) hv92_) ⟨by decide, by decide⟩ (by
    rw [wW_push rfl hm89_ (hl90_ _ (Nat.le_refl _)), wW_len hm89_, wI_z (hf89_ _ (Nat.le_refl _))]
    exact pX0_init) ⟨by decide, by decide⟩ ?_ ?_
  · rintro _ _ ⟨rfl, rfl⟩
    rw [wW_push rfl hm89_ (hl90_ _ (Nat.le_refl _))]
    show (ks ++ _).length = (ks ++ _).length + _
    simp only [List.length_append, List.length_cons, List.length_nil]
    try omega
  rintro _ _ ⟨rfl, rfl⟩
  rw [wW_len hm89_]
  have hm93_ := K_len (k := (.inl 0 : XK)) hm89_
  have hl93_ := rf_s (n := m + 1 + 1 + 1 + 1 + 1 + 1 + 1 + 1 + 1 + 1 + 1 + 1 + 1 + 1 + 1 + 1 + 1 + 1 + 1 + 1 + 1 + 1) hl90_ (by omega)
  have hf93_ := f_s (n := m + 1 + 1 + 1 + 1 + 1 + 1 + 1 + 1 + 1 + 1 + 1 + 1 + 1 + 1 + 1 + 1 + 1 + 1 + 1 + 1 + 1 + 1) hf89_ (by omega)
  refine bX2_init_124 (n1 := 6) (i2 := 1) ⟨wW_get (K_old (K_old (K_old (K_old (K_old (K_old (K_old (K_old (K_old (K_old (K_old (K_old (K_old (K_old (K_old (K_old (K_old (K_old (K_old (K_old (K_last (k := (.inr (.inr (1, 6)) : XK)) hm1_))))))))))))))))))))), rfl, rfl⟩ rfl (by decide) (wW_get (K_last hm89_)) ?_
  rw [wW_ref]
  have hl94_ := rf_c (a := m + 1) (k := 1) (v := m + 1 + 1 + 1 + 1 + 1 + 1 + 1 + 1 + 1 + 1 + 1 + 1 + 1 + 1 + 1 + 1 + 1 + 1 + 1 + 1 + 1) hl93_ (by omega)
  have hv95_ := rf_n (a1 := m + 1) (k1 := 1) (v1 := m + 1 + 1 + 1 + 1 + 1 + 1 + 1 + 1 + 1 + 1 + 1 + 1 + 1 + 1 + 1 + 1 + 1 + 1 + 1 + 1 + 1) hv91_ (by omega)
  have hv96_ := rf_n (a1 := m + 1) (k1 := 1) (v1 := m + 1 + 1 + 1 + 1 + 1 + 1 + 1 + 1 + 1 + 1 + 1 + 1 + 1 + 1 + 1 + 1 + 1 + 1 + 1 + 1 + 1) hv92_ (by omega)
  refine bX2_init_125 ?_
  refine bX2_init_106 (fun c => absurd c (by decide)) (fun _ => ?_)
  refine bX2_init_112 (b1 := (3, 9)) (bc := (0, 0)) (be := (3, 9)) (wW_get (K_old (K_old (K_old (K_old (K_old (K_old (K_old (K_old (K_old (K_old (K_old (K_old (K_old (K_old (K_old (K_old (K_old (K_old (K_old (K_old (K_old (K_old hk))))))))))))))))))))))) (wW_val (v := m + 1) hv96_) ⟨by decide, by decide⟩ (by
    rw [wW_push rfl hm93_ (hl94_ _ (Nat.le_refl _)), wW_len hm93_, wI_z (hf93_ _ (Nat.le_refl _))]
    exact pX0_init) ⟨by decide, by decide⟩ ?_ ?_
  · rintro _ _ ⟨rfl, rfl⟩
    rw [wW_push rfl hm93_ (hl94_ _ (Nat.le_refl _))]
    show (ks ++ _).length = (ks ++ _).length + _
    simp only [List.length_append, List.length_cons, List.length_nil]
    try omega
  rintro _ _ ⟨rfl, rfl⟩
  rw [wW_len hm93_]
  have hm97_ := K_len (k := (.inl 0 : XK)) hm93_
  have hl97_ := rf_s (n := m + 1 + 1 + 1 + 1 + 1 + 1 + 1 + 1 + 1 + 1 + 1 + 1 + 1 + 1 + 1 + 1 + 1 + 1 + 1 + 1 + 1 + 1 + 1) hl94_ (by omega)
  have hf97_ := f_s (n := m + 1 + 1 + 1 + 1 + 1 + 1 + 1 + 1 + 1 + 1 + 1 + 1 + 1 + 1 + 1 + 1 + 1 + 1 + 1 + 1 + 1 + 1 + 1) hf93_ (by omega)
  refine bX2_init_124 (n1 := 6) (i2 := 2) ⟨wW_get (K_old (K_old (K_old (K_old (K_old (K_old (K_old (K_old (K_old (K_old (K_old (K_old (K_old (K_old (K_old (K_old (K_old (K_old (K_old (K_old (K_old (K_last (k := (.inr (.inr (1, 6)) : XK)) hm1_)))))))))))))))))))))), rfl, rfl⟩ rfl (by decide) (wW_get (K_last hm93_)) ?_
  rw [wW_ref]
  have hl98_ := rf_c (a := m + 1) (k := 2) (v := m + 1 + 1 + 1 + 1 + 1 + 1 + 1 + 1 + 1 + 1 + 1 + 1 + 1 + 1 + 1 + 1 + 1 + 1 + 1 + 1 + 1 + 1) hl97_ (by omega)
  have hv99_ := rf_n (a1 := m + 1) (k1 := 2) (v1 := m + 1 + 1 + 1 + 1 + 1 + 1 + 1 + 1 + 1 + 1 + 1 + 1 + 1 + 1 + 1 + 1 + 1 + 1 + 1 + 1 + 1 + 1) hv95_ (by omega)
  have hv100_ := rf_n (a1 := m + 1) (k1 := 2) (v1 := m + 1 + 1 + 1 + 1 + 1 + 1 + 1 + 1 + 1 + 1 + 1 + 1 + 1 + 1 + 1 + 1 + 1 + 1 + 1 + 1 + 1 + 1) hv96_ (by omega)
  refine bX2_init_125 ?_
  refine bX2_init_106 (fun c => absurd c (by decide)) (fun _ => ?_)
  refine bX2_init_112 (b1 := (2, 6)) (bc := (0, 0)) (be := (2, 6)) (wW_get (K_old (K_old (K_old (K_old (K_old (K_old (K_old (K_old (K_old (K_old (K_old (K_old (K_old (K_old (K_old (K_old (K_old (K_old (K_old (K_old (K_old (K_old (K_old hk)))))))))))))))))))))))) (wW_val (v := m + 1) hv100_) ⟨by decide, by decide⟩ (by
    rw [wW_push rfl hm97_ (hl98_ _ (Nat.le_refl _)), wW_len hm97_, wI_z (hf97_ _ (Nat.le_refl _))]
    exact pX0_init) ⟨by decide, by decide⟩ ?_ ?_
  · rintro _ _ ⟨rfl, rfl⟩
    rw [wW_push rfl hm97_ (hl98_ _ (Nat.le_refl _))]
    show (ks ++ _).length = (ks ++ _).length + _
    simp only [List.length_append, List.length_cons, List.length_nil]
    try omega
  rintro _ _ ⟨rfl, rfl⟩
  rw [wW_len hm97_]
  have hm101_ := K_len (k := (.inl 0 : XK)) hm97_
  have hl101_ := rf_s (n := m + 1 + 1 + 1 + 1 + 1 + 1 + 1 + 1 + 1 + 1 + 1 + 1 + 1 + 1 + 1 + 1 + 1 + 1 + 1 + 1 + 1 + 1 + 1 + 1) hl98_ (by omega)
  have hf101_ := f_s (n := m + 1 + 1 + 1 + 1 + 1 + 1 + 1 + 1 + 1 + 1 + 1 + 1 + 1 + 1 + 1 + 1 + 1 + 1 + 1 + 1 + 1 + 1 + 1 + 1) hf97_ (by omega)
  refine bX2_init_124 (n1 := 6) (i2 := 3) ⟨wW_get (K_old (K_old (K_old (K_old (K_old (K_old (K_old (K_old (K_old (K_old (K_old (K_old (K_old (K_old (K_old (K_old (K_old (K_old (K_old (K_old (K_old (K_old (K_last (k := (.inr (.inr (1, 6)) : XK)) hm1_))))))))))))))))))))))), rfl, rfl⟩ rfl (by decide) (wW_get (K_last hm97_)) ?_
  rw [wW_ref]
  have hl102_ := rf_c (a := m + 1) (k := 3) (v := m + 1 + 1 + 1 + 1 + 1 + 1 + 1 + 1 + 1 + 1 + 1 + 1 + 1 + 1 + 1 + 1 + 1 + 1 + 1 + 1 + 1 + 1 + 1) hl101_ (by omega)
  have hv103_ := rf_n (a1 := m + 1) (k1 := 3) (v1 := m + 1 + 1 + 1 + 1 + 1 + 1 + 1 + 1 + 1 + 1 + 1 + 1 + 1 + 1 + 1 + 1 + 1 + 1 + 1 + 1 + 1 + 1 + 1) hv99_ (by omega)
  have hv104_ := rf_n (a1 := m + 1) (k1 := 3) (v1 := m + 1 + 1 + 1 + 1 + 1 + 1 + 1 + 1 + 1 + 1 + 1 + 1 + 1 + 1 + 1 + 1 + 1 + 1 + 1 + 1 + 1 + 1 + 1) hv100_ (by omega)
  refine bX2_init_125 ?_
  refine bX2_init_106 (fun c => absurd c (by decide)) (fun _ => ?_)
  refine bX2_init_112 (b1 := (1, 3)) (bc := (0, 0)) (be := (1, 3)) (wW_get (K_old (K_old (K_old (K_old (K_old (K_old (K_old (K_old (K_old (K_old (K_old (K_old (K_old (K_old (K_old (K_old (K_old (K_old (K_old (K_old (K_old (K_old (K_old (K_old hk))))))))))))))))))))))))) (wW_val (v := m + 1) hv104_) ⟨by decide, by decide⟩ (by
    rw [wW_push rfl hm101_ (hl102_ _ (Nat.le_refl _)), wW_len hm101_, wI_z (hf101_ _ (Nat.le_refl _))]
    exact pX0_init) ⟨by decide, by decide⟩ ?_ ?_
  · rintro _ _ ⟨rfl, rfl⟩
    rw [wW_push rfl hm101_ (hl102_ _ (Nat.le_refl _))]
    show (ks ++ _).length = (ks ++ _).length + _
    simp only [List.length_append, List.length_cons, List.length_nil]
    try omega
  rintro _ _ ⟨rfl, rfl⟩
  rw [wW_len hm101_]
  have hm105_ := K_len (k := (.inl 0 : XK)) hm101_
  have hl105_ := rf_s (n := m + 1 + 1 + 1 + 1 + 1 + 1 + 1 + 1 + 1 + 1 + 1 + 1 + 1 + 1 + 1 + 1 + 1 + 1 + 1 + 1 + 1 + 1 + 1 + 1 + 1) hl102_ (by omega)
  have hf105_ := f_s (n := m + 1 + 1 + 1 + 1 + 1 + 1 + 1 + 1 + 1 + 1 + 1 + 1 + 1 + 1 + 1 + 1 + 1 + 1 + 1 + 1 + 1 + 1 + 1 + 1 + 1) hf101_ (by omega)
  refine bX2_init_124 (n1 := 6) (i2 := 4) ⟨wW_get (K_old (K_old (K_old (K_old (K_old (K_old (K_old (K_old (K_old (K_old (K_old (K_old (K_old (K_old (K_old (K_old (K_old (K_old (K_old (K_old (K_old (K_old (K_old (K_last (k := (.inr (.inr (1, 6)) : XK)) hm1_)))))))))))))))))))))))), rfl, rfl⟩ rfl (by decide) (wW_get (K_last hm101_)) ?_
  rw [wW_ref]
  have hl106_ := rf_c (a := m + 1) (k := 4) (v := m + 1 + 1 + 1 + 1 + 1 + 1 + 1 + 1 + 1 + 1 + 1 + 1 + 1 + 1 + 1 + 1 + 1 + 1 + 1 + 1 + 1 + 1 + 1 + 1) hl105_ (by omega)
  have hv107_ := rf_n (a1 := m + 1) (k1 := 4) (v1 := m + 1 + 1 + 1 + 1 + 1 + 1 + 1 + 1 + 1 + 1 + 1 + 1 + 1 + 1 + 1 + 1 + 1 + 1 + 1 + 1 + 1 + 1 + 1 + 1) hv103_ (by omega)
  have hv108_ := rf_n (a1 := m + 1) (k1 := 4) (v1 := m + 1 + 1 + 1 + 1 + 1 + 1 + 1 + 1 + 1 + 1 + 1 + 1 + 1 + 1 + 1 + 1 + 1 + 1 + 1 + 1 + 1 + 1 + 1 + 1) hv104_ (by omega)
  refine bX2_init_125 ?_
  refine bX2_init_106 (fun c => absurd c (by decide)) (fun _ => ?_)
  refine bX2_init_112 (b1 := (0, 0)) (bc := (0, 0)) (be := (0, 0)) (wW_get (K_old (K_old (K_old (K_old (K_old (K_old (K_old (K_old (K_old (K_old (K_old (K_old (K_old (K_old (K_old (K_old (K_old (K_old (K_old (K_old (K_old (K_old (K_old (K_old (K_old hk)))))))))))))))))))))))))) (wW_val (v := m + 1) hv108_) ⟨by decide, by decide⟩ (by
    rw [wW_push rfl hm105_ (hl106_ _ (Nat.le_refl _)), wW_len hm105_, wI_z (hf105_ _ (Nat.le_refl _))]
    exact pX0_init) ⟨by decide, by decide⟩ ?_ ?_
  · rintro _ _ ⟨rfl, rfl⟩
    rw [wW_push rfl hm105_ (hl106_ _ (Nat.le_refl _))]
    show (ks ++ _).length = (ks ++ _).length + _
    simp only [List.length_append, List.length_cons, List.length_nil]
    try omega
  rintro _ _ ⟨rfl, rfl⟩
  rw [wW_len hm105_]
  have hm109_ := K_len (k := (.inl 0 : XK)) hm105_
  have hl109_ := rf_s (n := m + 1 + 1 + 1 + 1 + 1 + 1 + 1 + 1 + 1 + 1 + 1 + 1 + 1 + 1 + 1 + 1 + 1 + 1 + 1 + 1 + 1 + 1 + 1 + 1 + 1 + 1) hl106_ (by omega)
  have hf109_ := f_s (n := m + 1 + 1 + 1 + 1 + 1 + 1 + 1 + 1 + 1 + 1 + 1 + 1 + 1 + 1 + 1 + 1 + 1 + 1 + 1 + 1 + 1 + 1 + 1 + 1 + 1 + 1) hf105_ (by omega)
  refine bX2_init_124 (n1 := 6) (i2 := 5) ⟨wW_get (K_old (K_old (K_old (K_old (K_old (K_old (K_old (K_old (K_old (K_old (K_old (K_old (K_old (K_old (K_old (K_old (K_old (K_old (K_old (K_old (K_old (K_old (K_old (K_old (K_last (k := (.inr (.inr (1, 6)) : XK)) hm1_))))))))))))))))))))))))), rfl, rfl⟩ rfl (by decide) (wW_get (K_last hm105_)) ?_
  rw [wW_ref]
  have hl110_ := rf_c (a := m + 1) (k := 5) (v := m + 1 + 1 + 1 + 1 + 1 + 1 + 1 + 1 + 1 + 1 + 1 + 1 + 1 + 1 + 1 + 1 + 1 + 1 + 1 + 1 + 1 + 1 + 1 + 1 + 1) hl109_ (by omega)
  have hv111_ := rf_n (a1 := m + 1) (k1 := 5) (v1 := m + 1 + 1 + 1 + 1 + 1 + 1 + 1 + 1 + 1 + 1 + 1 + 1 + 1 + 1 + 1 + 1 + 1 + 1 + 1 + 1 + 1 + 1 + 1 + 1 + 1) hv107_ (by omega)
  have hv112_ := rf_n (a1 := m + 1) (k1 := 5) (v1 := m + 1 + 1 + 1 + 1 + 1 + 1 + 1 + 1 + 1 + 1 + 1 + 1 + 1 + 1 + 1 + 1 + 1 + 1 + 1 + 1 + 1 + 1 + 1 + 1 + 1) hv108_ (by omega)
  refine bX2_init_125 ?_
  refine bX2_init_106 (fun _ => ?_) (fun c => absurd (by decide) c)
  refine bX2_init_131 ?_
  exact hQ _ _ ⟨rfl, rfl⟩

def clsK : List XK := [.inl 2, .inr (.inr (0, 6)), .inr (.inr (1, 6)), .inl 3, .inl 6, .inr (.inl 60), .inr (.inl 60), .inl 3, .inl 6, .inr (.inl 60), .inr (.inl 60), .inl 6, .inr (.inl 60), .inl 6, .inr (.inl 24), .inl 4, .inl 4, .inl 4, .inl 4, .inl 4, .inl 4, .inl 0, .inl 0, .inl 0, .inl 0, .inl 0, .inl 0, .inl 5, .inl 6, .inr (.inl 60), .inl 1, .inr (.inl 99), .inl 8, .inl 6, .inr (.inl 30), .inr (.inr (2, 4)), .inr (.inl 7), .inl 7, .inl 6, .inr (.inl 24), .inl 7, .inl 6, .inr (.inl 24), .inl 7, .inl 6, .inr (.inl 24), .inl 7, .inl 6, .inr (.inl 24)]
def clsl (a m : Nat) : List (Nat × Nat × Nat) := [(m + 35, 3, m + 46), (m + 46, 0, m + 47), (m + 47, 0, m + 48), (m + 35, 2, m + 43), (m + 43, 0, m + 44), (m + 44, 0, m + 45), (m + 35, 1, m + 40), (m + 40, 0, m + 41), (m + 41, 0, m + 42), (m + 35, 0, m + 37), (m + 37, 0, m + 38), (m + 38, 0, m + 39), (a, 5, m + 36), (a, 4, m + 35), (a, 3, m + 32), (m + 32, 0, m + 33), (m + 33, 0, m + 34), (a, 2, m + 30), (m + 30, 0, m), (m + 30, 1, m + 31), (a, 1, m + 27), (m + 27, 0, m + 11), (m + 27, 1, m + 28), (m + 28, 0, m + 29)] ++ (a, 0, m) :: isl m (m + 1)
set_option maxHeartbeats 4000000 in
theorem pX9_init {d : Nat} {ks : List XK} {R0 : Nat → Nat → Option Nat} {I0 : XI} {K : List XK} {l : List (Nat × Nat × Nat)} {f : XI} {a m : Nat}  (hk : K[a]? = some (.inl 9)) (hm : K.length = m) (hl : ∀ i, m ≤ i → ∀ j, rfT l i j = none) (hf : ∀ i, m ≤ i → ∀ j, f i j = 0) : SpC mX9_init (d + 4) (49, 735) [.ref (ks.length + a)] (wW ks R0 K l) (wI ks.length I0 m f) (fun S' im' => S' = (wW ks R0 (K ++ clsK) (clsl a m ++ l)) ∧ im' = (wI ks.length I0 (m + 49) (isF f m (m + 1)))) := by
  refine SpC.of [some (.ref (ks.length + a)), none] rfl (by decide) rfl (fun Q hQ => ?_)
  have ham := K_lt hm hk
  refine bX9_init_0 ?_
  refine s9_4 (b1 := (22, 331)) hk hm hl hf ⟨by decide, by decide⟩ (fun K1 l1 hK1 hl1_ hm1 hL1 hF1 hKo1 hlo1 => ?_)
  have hk1 := hKo1 _ _ hk
  have hAx1 : K1[m]? = some (.inl 2) := by
    rw [hK1]
    exact K_app (K_last hm)
  have hvx1 : rfT l1 a 0 = some m := by
    rw [hl1_]
    exact rf_at
  have htx1 : rfT l1 m 4 = some (m + 1 + 10) := by
    rw [hl1_]
    exact rf_n (isl_tape (m := m + 1) (by omega)) (by omega)
  clear hKo1 hlo1
  refine s9_15 (b1 := (19, 265)) hk1 hAx1 hvx1 htx1 hm1 hL1 hF1 ⟨by decide, by decide⟩ (fun K2 l2 hK2 hl2_ hm2 hL2 hF2 hKo2 hlo2 => ?_)
  have hk2 := hKo2 _ _ hk1
  have hAx2 := hKo2 _ _ hAx1
  have hvx2 := hlo2 _ _ _ (by omega) (by omega) hvx1
  have htx2 := hlo2 _ _ _ (by omega) (by omega) htx1
  clear hKo2 hlo2 hL1 hF1 hm1 hk1 hAx1 hvx1 htx1
  refine s9_33 (b1 := (17, 160)) hk2 hvx2 hm2 hL2 hF2 ⟨by decide, by decide⟩ (fun K3 l3 hK3 hl3_ hm3 hL3 hF3 hKo3 hlo3 => ?_)
  have hk3 := hKo3 _ _ hk2
  have hAx3 := hKo3 _ _ hAx2
  have hvx3 := hlo3 _ _ _ (by omega) (by omega) hvx2
  have htx3 := hlo3 _ _ _ (by omega) (by omega) htx2
  clear hKo3 hlo3 hL2 hF2 hm2 hk2 hAx2 hvx2 htx2
  refine s9_48 (b1 := (14, 123)) hk3 hm3 hL3 hF3 ⟨by decide, by decide⟩ (fun K4 l4 hK4 hl4_ hm4 hL4 hF4 hKo4 hlo4 => ?_)
  have hk4 := hKo4 _ _ hk3
  clear hKo4 hlo4 hL3 hF3 hm3 hk3
  refine s9_59 (b1 := (13, 119)) hk4 hm4 hL4 hF4 ⟨by decide, by decide⟩ (fun K5 l5 hK5 hl5_ hm5 hL5 hF5 hKo5 hlo5 => ?_)
  have hk5 := hKo5 _ _ hk4
  have hSx5 : K5[m + 27 + 3 + 2 + 3]? = some (.inr (.inr (2, 4))) := by
    rw [hK5]
    exact K_last hm4
  have hwx5 : rfT l5 a 4 = some (m + 27 + 3 + 2 + 3) := by
    rw [hl5_]
    exact rf_at
  clear hKo5 hlo5 hL4 hF4 hm4 hk4
  refine s9_67 (b1 := (12, 112)) hk5 hm5 hL5 hF5 ⟨by decide, by decide⟩ (fun K6 l6 hK6 hl6_ hm6 hL6 hF6 hKo6 hlo6 => ?_)
  have hk6 := hKo6 _ _ hk5
  have hSx6 := hKo6 _ _ hSx5
  have hwx6 := hlo6 _ _ _ (by omega) (by omega) hwx5
  clear hKo6 hlo6 hL5 hF5 hm5 hk5 hSx5 hwx5
  refine bX9_init_75 ?_
  refine s9_77 (b1 := (9, 84)) hk6 (by decide) hSx6 hwx6 hm6 hL6 hF6 ⟨by decide, by decide⟩ (fun K7 l7 hK7 hl7_ hm7 hL7 hF7 hKo7 hlo7 => ?_)
  have hk7 := hKo7 _ _ hk6
  have hSx7 := hKo7 _ _ hSx6
  have hwx7 := hlo7 _ _ _ (by omega) (by omega) hwx6
  clear hKo7 hlo7 hL6 hF6 hm6 hk6 hSx6 hwx6
  refine s9_77 (b1 := (6, 56)) hk7 (by decide) hSx7 hwx7 hm7 hL7 hF7 ⟨by decide, by decide⟩ (fun K8 l8 hK8 hl8_ hm8 hL8 hF8 hKo8 hlo8 => ?_)
  have hk8 := hKo8 _ _ hk7
  have hSx8 := hKo8 _ _ hSx7
  have hwx8 := hlo8 _ _ _ (by omega) (by omega) hwx7
  clear hKo8 hlo8 hL7 hF7 hm7 hk7 hSx7 hwx7
  refine s9_77 (b1 := (3, 28)) hk8 (by decide) hSx8 hwx8 hm8 hL8 hF8 ⟨by decide, by decide⟩ (fun K9 l9 hK9 hl9_ hm9 hL9 hF9 hKo9 hlo9 => ?_)
  have hk9 := hKo9 _ _ hk8
  have hSx9 := hKo9 _ _ hSx8
  have hwx9 := hlo9 _ _ _ (by omega) (by omega) hwx8
  clear hKo9 hlo9 hL8 hF8 hm8 hk8 hSx8 hwx8
  refine s9_77 (b1 := (0, 0)) hk9 (by decide) hSx9 hwx9 hm9 hL9 hF9 ⟨by decide, by decide⟩ (fun K10 l10 hK10 hl10_ hm10 hL10 hF10 hKo10 hlo10 => ?_)
  have hk10 := hKo10 _ _ hk9
  have hSx10 := hKo10 _ _ hSx9
  have hwx10 := hlo10 _ _ _ (by omega) (by omega) hwx9
  clear hKo10 hlo10 hL9 hF9 hm9 hk9 hSx9 hwx9
  refine bX9_init_77 (fun _ => ?_) (fun c => absurd (by decide) c)
  refine bX9_init_101 ?_
  have eK : K10 = K ++ clsK := by
    rw [hK10, hK9, hK8, hK7, hK6, hK5, hK4, hK3, hK2, hK1]
    simp only [List.append_assoc, List.cons_append, List.nil_append]
    rfl
  have el : l10 = clsl a m ++ l := by
    rw [hl10_, hl9_, hl8_, hl7_, hl6_, hl5_, hl4_, hl3_, hl2_, hl1_]
    rfl
  rw [eK, el]
  exact hQ _ _ ⟨rfl, rfl⟩

def isK : List XK := [.inr (.inr (0, 6)), .inr (.inr (1, 6)), .inl 3, .inl 6, .inr (.inl 60), .inr (.inl 60), .inl 3, .inl 6, .inr (.inl 60), .inr (.inl 60), .inl 6, .inr (.inl 60), .inl 6, .inr (.inl 24), .inl 4, .inl 4, .inl 4, .inl 4, .inl 4, .inl 4, .inl 0, .inl 0, .inl 0, .inl 0, .inl 0, .inl 0]
def isl (a m : Nat) : List (Nat × Nat × Nat) := [(m + 1, 5, m + 25), (m + 1, 4, m + 24), (m + 1, 3, m + 23), (m + 1, 2, m + 22), (m + 1, 1, m + 21), (m + 1, 0, m + 20), (m, 5, m + 19), (m, 4, m + 18), (m, 3, m + 17), (m, 2, m + 16), (m, 1, m + 15), (m, 0, m + 14), (a, 5, m + 12), (m + 12, 0, m + 13), (a, 4, m + 10), (m + 10, 0, m + 11), (a, 3, m + 6), (m + 6, 2, m + 9), (m + 6, 1, m + 7), (m + 7, 0, m + 8), (a, 2, m + 2), (m + 2, 2, m + 5), (m + 2, 1, m + 3), (m + 3, 0, m + 4), (a, 1, m + 1), (a, 0, m)]
def isF (f : XI) (a m : Nat) : XI := (xup (xup (xup (xup (xup (xup (xup (xup (xup f (m + 2) 0 0) (m + 6) 0 1) (a) 9 1) (m + 14) 2 1) (m + 15) 2 1) (m + 16) 2 1) (m + 17) 2 1) (m + 18) 2 1) (m + 19) 2 1)
set_option maxHeartbeats 6000000 in
theorem pX2_init {d : Nat} {ks : List XK} {R0 : Nat → Nat → Option Nat} {I0 : XI} {K : List XK} {l : List (Nat × Nat × Nat)} {f : XI} {a m : Nat}  (hk : K[a]? = some (.inl 2)) (hm : K.length = m) (hl : ∀ i, m ≤ i → ∀ j, rfT l i j = none) (hf : ∀ i, m ≤ i → ∀ j, f i j = 0) : SpC mX2_init (d + 3) (26, 394) [.ref (ks.length + a)] (wW ks R0 K l) (wI ks.length I0 m f) (fun S' im' => S' = (wW ks R0 (K ++ isK) (isl a m ++ l)) ∧ im' = (wI ks.length I0 (m + 26) (isF f a m))) := by
  refine SpC.of [some (.ref (ks.length + a)), none] rfl (by decide) rfl (fun Q hQ => ?_)
  have ham := K_lt hm hk
  refine bX2_init_0 ?_
  refine sX2_4 (b1 := (25, 388)) hk hm hl hf ⟨by decide, by decide⟩ (fun K1 l1 hK1 hl1_ hm1 hL1 hF1 hKo1 hlo1 => ?_)
  have hk1 := hKo1 _ _ hk
  have hA0x1 : K1[m]? = some (.inr (.inr (0, 6))) := by
    rw [hK1]
    exact K_last hm
  have hv0x1 : rfT l1 a 0 = some m := by
    rw [hl1_]
    exact rf_at
  clear hKo1 hlo1
  refine sX2_13 (b1 := (24, 382)) hk1 hm1 hL1 hF1 ⟨by decide, by decide⟩ (fun K2 l2 hK2 hl2_ hm2 hL2 hF2 hKo2 hlo2 => ?_)
  have hk2 := hKo2 _ _ hk1
  have hA0x2 := hKo2 _ _ hA0x1
  have hv0x2 := hlo2 _ _ _ (by omega) (by omega) hv0x1
  have hA1x2 : K2[m + 1]? = some (.inr (.inr (1, 6))) := by
    rw [hK2]
    exact K_last hm1
  have hv1x2 : rfT l2 a 1 = some (m + 1) := by
    rw [hl2_]
    exact rf_at
  clear hKo2 hlo2 hL1 hF1 hm1 hk1 hA0x1 hv0x1
  refine sX2_22 (b1 := (20, 256)) hk2 hm2 hL2 hF2 ⟨by decide, by decide⟩ (fun K3 l3 hK3 hl3_ hm3 hL3 hF3 hKo3 hlo3 => ?_)
  have hk3 := hKo3 _ _ hk2
  have hA0x3 := hKo3 _ _ hA0x2
  have hv0x3 := hlo3 _ _ _ (by omega) (by omega) hv0x2
  have hA1x3 := hKo3 _ _ hA1x2
  have hv1x3 := hlo3 _ _ _ (by omega) (by omega) hv1x2
  clear hKo3 hlo3 hL2 hF2 hm2 hk2 hA0x2 hv0x2 hA1x2 hv1x2
  refine sX2_34 (b1 := (16, 130)) hk3 hm3 hL3 hF3 ⟨by decide, by decide⟩ (fun K4 l4 hK4 hl4_ hm4 hL4 hF4 hKo4 hlo4 => ?_)
  have hk4 := hKo4 _ _ hk3
  have hA0x4 := hKo4 _ _ hA0x3
  have hv0x4 := hlo4 _ _ _ (by omega) (by omega) hv0x3
  have hA1x4 := hKo4 _ _ hA1x3
  have hv1x4 := hlo4 _ _ _ (by omega) (by omega) hv1x3
  clear hKo4 hlo4 hL3 hF3 hm3 hk3 hA0x3 hv0x3 hA1x3 hv1x3
  refine sX2_46 (b1 := (14, 68)) hk4 hm4 hL4 hF4 ⟨by decide, by decide⟩ (fun K5 l5 hK5 hl5_ hm5 hL5 hF5 hKo5 hlo5 => ?_)
  have hk5 := hKo5 _ _ hk4
  have hA0x5 := hKo5 _ _ hA0x4
  have hv0x5 := hlo5 _ _ _ (by omega) (by omega) hv0x4
  have hA1x5 := hKo5 _ _ hA1x4
  have hv1x5 := hlo5 _ _ _ (by omega) (by omega) hv1x4
  clear hKo5 hlo5 hL4 hF4 hm4 hk4 hA0x4 hv0x4 hA1x4 hv1x4
  refine sX2_59 (b1 := (12, 42)) hk5 hm5 hL5 hF5 ⟨by decide, by decide⟩ (fun K6 l6 hK6 hl6_ hm6 hL6 hF6 hKo6 hlo6 => ?_)
  have hk6 := hKo6 _ _ hk5
  have hA0x6 := hKo6 _ _ hA0x5
  have hv0x6 := hlo6 _ _ _ (by omega) (by omega) hv0x5
  have hA1x6 := hKo6 _ _ hA1x5
  have hv1x6 := hlo6 _ _ _ (by omega) (by omega) hv1x5
  clear hKo6 hlo6 hL5 hF5 hm5 hk5 hA0x5 hv0x5 hA1x5 hv1x5
  refine bX2_init_72 (wW_get hk6) ?_
  rw [wI_u (by omega)]
  refine bX2_init_77 ?_
  have hFx := f_u (a := a) (k := 9) (v := 1) hF6 (by omega)
  refine sX2_79 (b1 := (11, 38)) hk6 (by decide) hA0x6 hv0x6 hm6 hL6 hFx ⟨by decide, by decide⟩ (fun K7 l7 hK7 hl7_ hm7 hL7 hF7 hKo7 hlo7 => ?_)
  have hk7 := hKo7 _ _ hk6
  have hA0x7 := hKo7 _ _ hA0x6
  have hv0x7 := hlo7 _ _ _ (by omega) (by omega) hv0x6
  have hA1x7 := hKo7 _ _ hA1x6
  have hv1x7 := hlo7 _ _ _ (by omega) (by omega) hv1x6
  clear hKo7 hlo7 hL6 hFx hm6 hk6 hA0x6 hv0x6 hA1x6 hv1x6
  refine sX2_79 (b1 := (10, 34)) hk7 (by decide) hA0x7 hv0x7 hm7 hL7 hF7 ⟨by decide, by decide⟩ (fun K8 l8 hK8 hl8_ hm8 hL8 hF8 hKo8 hlo8 => ?_)
  have hk8 := hKo8 _ _ hk7
  have hA0x8 := hKo8 _ _ hA0x7
  have hv0x8 := hlo8 _ _ _ (by omega) (by omega) hv0x7
  have hA1x8 := hKo8 _ _ hA1x7
  have hv1x8 := hlo8 _ _ _ (by omega) (by omega) hv1x7
  clear hKo8 hlo8 hL7 hF7 hm7 hk7 hA0x7 hv0x7 hA1x7 hv1x7
  refine sX2_79 (b1 := (9, 30)) hk8 (by decide) hA0x8 hv0x8 hm8 hL8 hF8 ⟨by decide, by decide⟩ (fun K9 l9 hK9 hl9_ hm9 hL9 hF9 hKo9 hlo9 => ?_)
  have hk9 := hKo9 _ _ hk8
  have hA0x9 := hKo9 _ _ hA0x8
  have hv0x9 := hlo9 _ _ _ (by omega) (by omega) hv0x8
  have hA1x9 := hKo9 _ _ hA1x8
  have hv1x9 := hlo9 _ _ _ (by omega) (by omega) hv1x8
  clear hKo9 hlo9 hL8 hF8 hm8 hk8 hA0x8 hv0x8 hA1x8 hv1x8
  refine sX2_79 (b1 := (8, 26)) hk9 (by decide) hA0x9 hv0x9 hm9 hL9 hF9 ⟨by decide, by decide⟩ (fun K10 l10 hK10 hl10_ hm10 hL10 hF10 hKo10 hlo10 => ?_)
  have hk10 := hKo10 _ _ hk9
  have hA0x10 := hKo10 _ _ hA0x9
  have hv0x10 := hlo10 _ _ _ (by omega) (by omega) hv0x9
  have hA1x10 := hKo10 _ _ hA1x9
  have hv1x10 := hlo10 _ _ _ (by omega) (by omega) hv1x9
  clear hKo10 hlo10 hL9 hF9 hm9 hk9 hA0x9 hv0x9 hA1x9 hv1x9
  refine sX2_79 (b1 := (7, 22)) hk10 (by decide) hA0x10 hv0x10 hm10 hL10 hF10 ⟨by decide, by decide⟩ (fun K11 l11 hK11 hl11_ hm11 hL11 hF11 hKo11 hlo11 => ?_)
  have hk11 := hKo11 _ _ hk10
  have hA0x11 := hKo11 _ _ hA0x10
  have hv0x11 := hlo11 _ _ _ (by omega) (by omega) hv0x10
  have hA1x11 := hKo11 _ _ hA1x10
  have hv1x11 := hlo11 _ _ _ (by omega) (by omega) hv1x10
  clear hKo11 hlo11 hL10 hF10 hm10 hk10 hA0x10 hv0x10 hA1x10 hv1x10
  refine sX2_79 (b1 := (6, 18)) hk11 (by decide) hA0x11 hv0x11 hm11 hL11 hF11 ⟨by decide, by decide⟩ (fun K12 l12 hK12 hl12_ hm12 hL12 hF12 hKo12 hlo12 => ?_)
  have hk12 := hKo12 _ _ hk11
  have hA0x12 := hKo12 _ _ hA0x11
  have hv0x12 := hlo12 _ _ _ (by omega) (by omega) hv0x11
  have hA1x12 := hKo12 _ _ hA1x11
  have hv1x12 := hlo12 _ _ _ (by omega) (by omega) hv1x11
  clear hKo12 hlo12 hL11 hF11 hm11 hk11 hA0x11 hv0x11 hA1x11 hv1x11
  refine bX2_init_79 (fun _ => ?_) (fun c => absurd (by decide) c)
  refine bX2_init_104 ?_
  refine sX2_106 (b1 := (5, 15)) hk12 (by decide) hA1x12 hv1x12 hm12 hL12 hF12 ⟨by decide, by decide⟩ (fun K13 l13 hK13 hl13_ hm13 hL13 hF13 hKo13 hlo13 => ?_)
  have hk13 := hKo13 _ _ hk12
  have hA0x13 := hKo13 _ _ hA0x12
  have hv0x13 := hlo13 _ _ _ (by omega) (by omega) hv0x12
  have hA1x13 := hKo13 _ _ hA1x12
  have hv1x13 := hlo13 _ _ _ (by omega) (by omega) hv1x12
  clear hKo13 hlo13 hL12 hF12 hm12 hk12 hA0x12 hv0x12 hA1x12 hv1x12
  refine sX2_106 (b1 := (4, 12)) hk13 (by decide) hA1x13 hv1x13 hm13 hL13 hF13 ⟨by decide, by decide⟩ (fun K14 l14 hK14 hl14_ hm14 hL14 hF14 hKo14 hlo14 => ?_)
  have hk14 := hKo14 _ _ hk13
  have hA0x14 := hKo14 _ _ hA0x13
  have hv0x14 := hlo14 _ _ _ (by omega) (by omega) hv0x13
  have hA1x14 := hKo14 _ _ hA1x13
  have hv1x14 := hlo14 _ _ _ (by omega) (by omega) hv1x13
  clear hKo14 hlo14 hL13 hF13 hm13 hk13 hA0x13 hv0x13 hA1x13 hv1x13
  refine sX2_106 (b1 := (3, 9)) hk14 (by decide) hA1x14 hv1x14 hm14 hL14 hF14 ⟨by decide, by decide⟩ (fun K15 l15 hK15 hl15_ hm15 hL15 hF15 hKo15 hlo15 => ?_)
  have hk15 := hKo15 _ _ hk14
  have hA0x15 := hKo15 _ _ hA0x14
  have hv0x15 := hlo15 _ _ _ (by omega) (by omega) hv0x14
  have hA1x15 := hKo15 _ _ hA1x14
  have hv1x15 := hlo15 _ _ _ (by omega) (by omega) hv1x14
  clear hKo15 hlo15 hL14 hF14 hm14 hk14 hA0x14 hv0x14 hA1x14 hv1x14
  refine sX2_106 (b1 := (2, 6)) hk15 (by decide) hA1x15 hv1x15 hm15 hL15 hF15 ⟨by decide, by decide⟩ (fun K16 l16 hK16 hl16_ hm16 hL16 hF16 hKo16 hlo16 => ?_)
  have hk16 := hKo16 _ _ hk15
  have hA0x16 := hKo16 _ _ hA0x15
  have hv0x16 := hlo16 _ _ _ (by omega) (by omega) hv0x15
  have hA1x16 := hKo16 _ _ hA1x15
  have hv1x16 := hlo16 _ _ _ (by omega) (by omega) hv1x15
  clear hKo16 hlo16 hL15 hF15 hm15 hk15 hA0x15 hv0x15 hA1x15 hv1x15
  refine sX2_106 (b1 := (1, 3)) hk16 (by decide) hA1x16 hv1x16 hm16 hL16 hF16 ⟨by decide, by decide⟩ (fun K17 l17 hK17 hl17_ hm17 hL17 hF17 hKo17 hlo17 => ?_)
  have hk17 := hKo17 _ _ hk16
  have hA0x17 := hKo17 _ _ hA0x16
  have hv0x17 := hlo17 _ _ _ (by omega) (by omega) hv0x16
  have hA1x17 := hKo17 _ _ hA1x16
  have hv1x17 := hlo17 _ _ _ (by omega) (by omega) hv1x16
  clear hKo17 hlo17 hL16 hF16 hm16 hk16 hA0x16 hv0x16 hA1x16 hv1x16
  refine sX2_106 (b1 := (0, 0)) hk17 (by decide) hA1x17 hv1x17 hm17 hL17 hF17 ⟨by decide, by decide⟩ (fun K18 l18 hK18 hl18_ hm18 hL18 hF18 hKo18 hlo18 => ?_)
  have hk18 := hKo18 _ _ hk17
  have hA0x18 := hKo18 _ _ hA0x17
  have hv0x18 := hlo18 _ _ _ (by omega) (by omega) hv0x17
  have hA1x18 := hKo18 _ _ hA1x17
  have hv1x18 := hlo18 _ _ _ (by omega) (by omega) hv1x17
  clear hKo18 hlo18 hL17 hF17 hm17 hk17 hA0x17 hv0x17 hA1x17 hv1x17
  refine bX2_init_106 (fun _ => ?_) (fun c => absurd (by decide) c)
  refine bX2_init_131 ?_
  have eK : K18 = K ++ isK := by
    rw [hK18, hK17, hK16, hK15, hK14, hK13, hK12, hK11, hK10, hK9, hK8, hK7, hK6, hK5, hK4, hK3, hK2, hK1]
    simp only [List.append_assoc, List.cons_append, List.nil_append]
    rfl
  have el : l18 = isl a m ++ l := by
    rw [hl18_, hl17_, hl16_, hl15_, hl14_, hl13_, hl12_, hl11_, hl10_, hl9_, hl8_, hl7_, hl6_, hl5_, hl4_, hl3_, hl2_, hl1_]
    rfl
  rw [eK, el]
  exact hQ _ _ ⟨rfl, rfl⟩

theorem pX6_init {d : Nat} {ks : List XK} {R0 : Nat → Nat → Option Nat} {I0 : XI} {K : List XK} {l : List (Nat × Nat × Nat)} {f : XI} {a m : Nat} {v : Int32} {n : Nat} (hv : v = nI n) (hn : n < 1000) (hk : K[a]? = some (.inl 6)) (hm : K.length = m) (hl : ∀ i, m ≤ i → ∀ j, rfT l i j = none) (hf : ∀ i, m ≤ i → ∀ j, f i j = 0) : SpC mX6_init (d + 1) (1, n) [.ref (ks.length + a), .int v] (wW ks R0 K l) (wI ks.length I0 m f) (fun S' im' => S' = (wW ks R0 (K ++ [.inr (.inl n)]) ((a, 0, m) :: l)) ∧ im' = (wI ks.length I0 (m + 1) f)) := by
  refine SpC.of [some (.ref (ks.length + a)), some (.int v)] rfl (by decide) rfl (fun Q hQ => ?_)
  have ham : a < m := by rw [← hm]; exact (List.getElem?_eq_some_iff.mp hk).1
  refine bX6_init_0 ?_
  refine qX6_init_4 ?_
  have hmx : (if (0 : Int32) < v then v else 0) = nI n := by
    rw [hv]
    by_cases h : n = 0
    · subst h; rfl
    · rw [if_pos ((nI_lt0 (by omega)).mpr (by omega))]
  refine bX6_init_10 (b1 := (0, 0)) hmx (by rw [Nat.blt_eq]; omega) ⟨Nat.le_refl _, Nat.le_refl _⟩ ?_ ?_
  · rw [wW_push rfl hm (hl m (Nat.le_refl m))]
    exact wW_get (by rw [List.getElem?_append_left (by omega)]; exact hk)
  · rw [wW_pr rfl hm (hl m (Nat.le_refl m)), wW_len hm, wI_z (hf m (Nat.le_refl m))]
    refine bX6_init_15 ?_
    exact hQ _ _ ⟨rfl, rfl⟩
theorem pX4_init {d : Nat} {ks : List XK} {R0 : Nat → Nat → Option Nat} {I0 : XI} {K : List XK} {l : List (Nat × Nat × Nat)} {f : XI} {a m : Nat}  (hk : K[a]? = some (.inl 4)) (ham : a < m) : SpC mX4_init (d + 1) (0, 0) [.ref (ks.length + a)] (wW ks R0 K l) (wI ks.length I0 m f) (fun S' im' => S' = (wW ks R0 K l) ∧ im' = (wI ks.length I0 m (xup f a 2 1))) := by
  refine SpC.of [some (.ref (ks.length + a))] rfl (by decide) rfl (fun Q hQ => ?_)
  refine bX4_init_0 ?_
  refine bX4_init_4 (wW_get hk) ?_
  refine bX4_init_9 ?_
  exact hQ _ _ ⟨rfl, wI_u ham⟩
theorem pX0_init {d : Nat} {ks : List XK} {R0 : Nat → Nat → Option Nat} {I0 : XI} {K : List XK} {l : List (Nat × Nat × Nat)} {f : XI} {a m : Nat}   : SpC mX0_init (d + 1) (0, 0) [.ref (ks.length + a)] (wW ks R0 K l) (wI ks.length I0 m f) (fun S' im' => S' = (wW ks R0 K l) ∧ im' = (wI ks.length I0 m f)) := by
  refine SpC.of [some (.ref (ks.length + a))] rfl (by decide) rfl (fun Q hQ => ?_)
  refine bX0_init_0 ?_
  refine bX0_init_4 ?_
  exact hQ _ _ ⟨rfl, rfl⟩

theorem new_M {d : Nat} {im : XI} (h : ∀ j, im 0 j = 0) : SpC mX10_init (d + 1) (12, 1299) [.ref 0] ([.inl 10], w00) im (fun S' im' => S' = SM ∧ im' = wI 0 im 13 (xup (fun _ _ => 0) 1 1 1)) := by
  have e := pX10_init (d := d) (ks := []) (R0 := w00) (I0 := im) (K := [.inl 10]) (l := []) (f := fun _ _ => 0) (a := 0) (m := 1) rfl rfl (fun _ _ _ => rfl) (fun _ _ _ => rfl)
  rw [wW_one, world_M] at e
  have e2 : wI ([] : List XK).length im 1 (fun _ _ => 0) = im := (wI_1 h).symm
  rw [e2] at e
  exact e
theorem new_C {d : Nat} {im : XI} (h : ∀ j, im 0 j = 0) : SpC mX9_init (d + 4) (49, 735) [.ref 0] ([.inl 9], w00) im (fun S' im' => S' = SC false ∧ im' = wI 0 im 50 (isF (fun _ _ => 0) 1 2)) := by
  have e := pX9_init (d := d) (ks := []) (R0 := w00) (I0 := im) (K := [.inl 9]) (l := []) (f := fun _ _ => 0) (a := 0) (m := 1) rfl rfl (fun _ _ _ => rfl) (fun _ _ _ => rfl)
  rw [wW_one, world_C] at e
  have e2 : wI ([] : List XK).length im 1 (fun _ _ => 0) = im := (wI_1 h).symm
  rw [e2] at e
  exact e
theorem RI_00 {im im' : XI} (h : im' = wI 0 im 50 (isF (fun _ _ => 0) 1 2)) : RI 0 s00 im' ∧ SR (fun _ => 0) (fun _ => 0) (fun _ => 0) im' ∧ (∀ k, im' 37 k = 0) ∧ im' 34 1 = 0 ∧ im' 0 7 = 0 := by
  have e : ∀ a j, a < 50 → im' a j = isF (fun _ _ => 0) 1 2 a j := by
    intro a j ha
    rw [h, wI_in (by omega) (by omega), Nat.sub_zero]
  refine ⟨⟨⟨?_, ?_, ?_, ?_⟩, ?_, ?_, ⟨?_, ?_⟩, ⟨?_, ?_⟩, ⟨?_, ?_, 0, by omega, ?_, ?_⟩, ⟨?_, ?_, 0, by omega, ?_, ?_⟩⟩, ?_, ?_, ?_, ?_⟩
  · rw [e _ _ (by omega)]; rfl
  · rw [e _ _ (by omega)]; rfl
  · rw [e _ _ (by omega)]; rfl
  · rw [e _ _ (by omega)]; rfl
  · intro p hp; exact absurd hp (by show ¬ p < nnat 0; exact Nat.not_lt_zero p)
  · intro p hp; exact absurd hp (by show ¬ p < nnat 0; exact Nat.not_lt_zero p)
  · rw [e _ _ (by omega)]; rfl
  · intro p hp; exact absurd hp (by show ¬ p < nnat 0; exact Nat.not_lt_zero p)
  · rw [e _ _ (by omega)]; rfl
  · intro p hp; exact absurd hp (by show ¬ p < nnat 0; exact Nat.not_lt_zero p)
  · rw [e _ _ (by omega)]; rfl
  · rw [e _ _ (by omega)]; rfl
  · rw [e _ _ (by omega)]; rfl
  · intro hg; exact absurd hg (by decide)
  · rw [e _ _ (by omega)]; rfl
  · rw [e _ _ (by omega)]; rfl
  · rw [e _ _ (by omega)]; rfl
  · intro hg; exact absurd hg (by decide)
  · intro z hz
    refine ⟨?_, ?_, fun m hm hm2 k hk => ?_⟩
    · rw [e _ _ (by omega)]
      match z, hz with
      | 0, _ => rfl
      | 1, _ => rfl
      | 2, _ => rfl
      | 3, _ => rfl
    · rw [e _ _ (by omega)]
      match z, hz with
      | 0, _ => rfl
      | 1, _ => rfl
      | 2, _ => rfl
      | 3, _ => rfl
    · have : m = 0 := (nI_eq (b := 0) (by omega) (by omega)).mp hm2.symm
      omega
  · intro k
    rw [e _ _ (by omega)]; rfl
  · rw [e _ _ (by omega)]; rfl
  · rw [e _ _ (by omega)]; rfl


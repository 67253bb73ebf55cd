theorem world_N : xpush (SC false) (.inl 2) = wW (SC false).1 (SC false).2 [.inl 2] [] := by
  refine Prod.ext rfl ?_
  funext a j
  show (if a = 50 then none else (SC false).2 a j) = if 50 ≤ a then (rfT [] (a - 50) j).map _ else (SC false).2 a j
  by_cases c : 50 ≤ a
  · rw [if_pos c]
    by_cases c2 : a = 50
    · rw [if_pos c2]; rfl
    · rw [if_neg c2, SCf_none (Or.inl c)]; rfl
  · rw [if_neg c, if_neg (by omega)]
theorem wI_n {b : Nat} {im : XI} : xz im b = wI b im 1 (fun _ _ => 0) := by
  funext a j
  unfold xz wI
  by_cases c : a = b
  · rw [if_pos c, if_pos (by omega)]
  · rw [if_neg c, if_neg (by omega)]
theorem pX9_image_N {d : Nat} {im : XI} {s : Nat → Int32} {np nd : Nat} (hR : RI 0 s im) (hI : Iv s np nd) : Spec mX9_image (d + 5) (27, 404) [.ref 0] (SC false) im (fun r S' im' => S' = SC true ∧ ∃ x : Int32, r = some (.int x) ∧ x = im 0 7 + 1 ∧ RI 0 s im' ∧ RI 49 s im' ∧ im' 0 7 = im 0 7 + 1 ∧ ∀ a k, a < 50 → ¬ (a = 0 ∧ k = 7) → im' a k = im a k) := by
  refine Spec.of [some (.ref 0)] rfl (by decide) rfl ?_
  refine bX9_image_0N ?_
  refine bX9_image_7 (b1 := (26, 394)) (bc := (26, 394)) (be := (0, 0)) ⟨by decide, by decide⟩ (by
    rw [world_N, show (SC false).1.length = 50 from rfl, wI_n]
    exact pX2_init (d := d + 1) (ks := (SC false).1) (R0 := (SC false).2) (I0 := im) (K := [.inl 2]) (l := []) (f := fun _ _ => 0) (a := 0) (m := 1) rfl rfl (fun _ _ _ => rfl) (fun _ _ _ => rfl)) ⟨by decide, by decide⟩ ?_ ?_
  · rintro _ _ ⟨rfl, rfl⟩
    rfl
  rintro _ _ ⟨rfl, rfl⟩
  refine V.putR fX9_295 (fun h => by cases h) rfl rfl (show (wW (SC false).1 (SC false).2 ([.inl 2] ++ isK) (isl 0 1 ++ [])).1[0]? = some (.inl 9) from rfl) dX9_image_15 ?_
  rw [show some (SC false).1.length = some 50 from rfl, world_I]
  have eo : ∀ a, a < 50 → (wI (SC false).1.length im (1 + 26) (isF (fun _ _ => 0) 0 1)) a = im a := by
    intro a ha
    funext k
    unfold wI
    rw [if_neg]
    intro h
    have h1 : 50 ≤ a := h.1
    omega
  refine pX9_image_18 (hR.ext hI (fun a _ _ _ _ => eo a (by omega))) hI rfl rfl (fun x im' h1 h2 h3 h4 h5 => ⟨rfl, x, rfl, ?_, h2, h3, ?_, fun a k ha hk => ?_⟩)
  · rw [h1, eo 0 (by omega)]
  · rw [h4, eo 0 (by omega)]
  · rw [h5 a k (by omega) hk, eo a ha]

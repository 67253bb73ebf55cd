theorem pX10_error {d : Nat} {im : XI} {x0 : Int32} {k : Nat} (hx : x0 = nI k) (hk : k < 7) : SpI mX10_error d [.ref 0, .int x0] SM im (fun x im' => x = -1000000000 - nI k ∧ im' = xup im 4 k (im 4 k + 1)) := by
  refine SpI.of [some (.ref 0), some (.int x0)] rfl (by decide) rfl (fun Q hQ => ?_)
  refine bX10_error_0  hx (by omega) ?_
  exact hQ _ _ ⟨by rw [hx], rfl⟩
theorem pX10_in {d : Nat} {im : XI} {S : XS} {v lo hi : Int32}  : SpI mX10_in d [.int v, .int lo, .int hi] S im (fun x im' => x = b2i (lo ≤ v ∧ v ≤ hi) ∧ im = im') := by
  refine SpI.of [some (.int v), some (.int lo), some (.int hi)] rfl (by decide) rfl (fun Q hQ => ?_)
  refine bX10_in_0   (fun c1 => ?_) (fun c1 => ?_)
  · skip
    refine bX10_in_14   ?_
    refine bX10_in_15  (by first | exact b2i_01 _ | assumption | decide) ?_
    exact hQ _ _ ⟨by clear hQ; simp only [i_le, i_lt] at *; simp only [b2i, i_le]; split <;> first | rfl | (exfalso; omega), rfl⟩
  · skip
    refine bX10_in_5   (fun c2 => ?_) (fun c2 => ?_)
    · skip
      refine bX10_in_14   ?_
      refine bX10_in_15  (by first | exact b2i_01 _ | assumption | decide) ?_
      exact hQ _ _ ⟨by clear hQ; simp only [i_le, i_lt] at *; simp only [b2i, i_le]; split <;> first | rfl | (exfalso; omega), rfl⟩
    · skip
      refine bX10_in_10   ?_
      refine bX10_in_15  (by first | exact b2i_01 _ | assumption | decide) ?_
      exact hQ _ _ ⟨by clear hQ; simp only [i_le, i_lt] at *; simp only [b2i, i_le]; split <;> first | rfl | (exfalso; omega), rfl⟩
theorem pX10_held {d : Nat} {im : XI} {S : XS} {v lo hi : Int32}  : SpI mX10_held d [.int v, .int lo, .int hi] S im (fun x im' => x = held0 v lo hi ∧ im = im') := by
  refine SpI.of [some (.int v), some (.int lo), some (.int hi)] rfl (by decide) rfl (fun Q hQ => ?_)
  refine bX10_held_0   (fun c1 => ?_) (fun c1 => ?_)
  · skip
    refine bX10_held_9   (fun c2 => ?_) (fun c2 => ?_)
    · skip
      refine bX10_held_18   ?_
      refine bX10_held_19   ?_
      exact hQ _ _ ⟨by clear hQ; simp only [i_le, i_lt] at *; simp only [held0, i_lt]; (repeat' split) <;> first | rfl | (exfalso; omega), rfl⟩
    · skip
      refine bX10_held_14   ?_
      refine bX10_held_19   ?_
      exact hQ _ _ ⟨by clear hQ; simp only [i_le, i_lt] at *; simp only [held0, i_lt]; (repeat' split) <;> first | rfl | (exfalso; omega), rfl⟩
  · skip
    refine bX10_held_5   ?_
    refine bX10_held_19   ?_
    exact hQ _ _ ⟨by clear hQ; simp only [i_le, i_lt] at *; simp only [held0, i_lt]; (repeat' split) <;> first | rfl | (exfalso; omega), rfl⟩
theorem pX10_isPerson {d : Nat} {im : XI} {v : Int32}  : SpI mX10_isPerson (d + 1) [.ref 0, .int v] SM im (fun x im' => x = b2i (0 ≤ v ∧ v ≤ im 1 4 - 1) ∧ im = im') := by
  refine SpI.of [some (.ref 0), some (.int v)] rfl (by decide) rfl (fun Q hQ => ?_)
  refine bX10_isPerson_0   pX10_in ?_
  rintro _ _ ⟨rfl, rfl⟩
  refine bX10_isPerson_13  (by first | exact b2i_01 _ | assumption | decide) ?_
  exact hQ _ _ ⟨rfl, rfl⟩
theorem pX10_isDoing {d : Nat} {im : XI} {v : Int32}  : SpI mX10_isDoing (d + 1) [.ref 0, .int v] SM im (fun x im' => x = b2i (0 ≤ v ∧ v ≤ im 1 5 - 1) ∧ im = im') := by
  refine SpI.of [some (.ref 0), some (.int v)] rfl (by decide) rfl (fun Q hQ => ?_)
  refine bX10_isDoing_0   pX10_in ?_
  rintro _ _ ⟨rfl, rfl⟩
  refine bX10_isDoing_13  (by first | exact b2i_01 _ | assumption | decide) ?_
  exact hQ _ _ ⟨rfl, rfl⟩
theorem pX10_isSet {d : Nat} {im : XI} {v : Int32}  : SpI mX10_isSet (d + 1) [.ref 0, .int v] SM im (fun x im' => x = b2i (0 ≤ v ∧ v ≤ (1 <<< (im 1 4 &&& 31)) - 1) ∧ im = im') := by
  refine SpI.of [some (.ref 0), some (.int v)] rfl (by decide) rfl (fun Q hQ => ?_)
  refine bX10_isSet_0   pX10_in ?_
  rintro _ _ ⟨rfl, rfl⟩
  refine bX10_isSet_15  (by first | exact b2i_01 _ | assumption | decide) ?_
  exact hQ _ _ ⟨rfl, rfl⟩
theorem pX10_its {d : Nat} {im : XI} {x0 y0 : Int32} {p w i : Nat} (hx : x0 = nI p) (hy : y0 = nI w) (hi : 8 + w + 4 * p = i) (h : i < 384) : SpI mX10_its d [.ref 0, .int x0, .int y0] SM im (fun x im' => x = im 1 i ∧ im = im') := by
  refine SpI.of [some (.ref 0), some (.int x0), some (.int y0)] rfl (by decide) rfl (fun Q hQ => ?_)
  refine bX10_its_0 (i1 := i) (by subst hx; subst hy; subst hi; exact ix5 8 4 p w) (by omega) ?_
  exact hQ _ _ ⟨rfl, rfl⟩
theorem pX10_ofDoing {d : Nat} {im : XI} {x0 y0 : Int32} {p w i : Nat} (hx : x0 = nI p) (hy : y0 = nI w) (hi : 32 + w + 3 * p = i) (h : i < 384) : SpI mX10_ofDoing d [.ref 0, .int x0, .int y0] SM im (fun x im' => x = im 1 i ∧ im = im') := by
  refine SpI.of [some (.ref 0), some (.int x0), some (.int y0)] rfl (by decide) rfl (fun Q hQ => ?_)
  refine bX10_ofDoing_0 (i1 := i) (by subst hx; subst hy; subst hi; exact ix5 32 3 p w) (by omega) ?_
  exact hQ _ _ ⟨rfl, rfl⟩
theorem pX10_lays1 {d : Nat} {im : XI} {x0 y0 z0 : Int32} {p w i : Nat} (hx : x0 = nI p) (hy : y0 = nI w) (hi : 8 + w + 4 * p = i) (h : i < 384) : SpV mX10_lays1 d [.ref 0, .int x0, .int y0, .int z0] SM im (fun im' => im' = xup im 1 i z0) := by
  refine SpV.of [some (.ref 0), some (.int x0), some (.int y0), some (.int z0)] rfl (by decide) rfl (fun Q hQ => ?_)
  refine bX10_lays1_0 (i1 := i) (by subst hx; subst hy; subst hi; exact ix5 8 4 p w) (by omega) ?_
  exact hQ _ rfl
theorem pX10_laysDoing {d : Nat} {im : XI} {x0 y0 z0 : Int32} {p w i : Nat} (hx : x0 = nI p) (hy : y0 = nI w) (hi : 32 + w + 3 * p = i) (h : i < 384) : SpV mX10_laysDoing d [.ref 0, .int x0, .int y0, .int z0] SM im (fun im' => im' = xup im 1 i z0) := by
  refine SpV.of [some (.ref 0), some (.int x0), some (.int y0), some (.int z0)] rfl (by decide) rfl (fun Q hQ => ?_)
  refine bX10_laysDoing_0 (i1 := i) (by subst hx; subst hy; subst hi; exact ix5 32 3 p w) (by omega) ?_
  exact hQ _ rfl
theorem pX10_change1 {d : Nat} {im : XI} {x0 z0 : Int32} {i : Nat} (hx : x0 = nI i) (h : i < 384) : SpI mX10_change1 d [.ref 0, .int x0, .int z0] SM im (fun x im' => x = im 1 i ∧ im' = xup im 1 i z0) := by
  refine SpI.of [some (.ref 0), some (.int x0), some (.int z0), none] rfl (by decide) rfl (fun Q hQ => ?_)
  refine bX10_change1_0  hx (by omega) ?_
  exact hQ _ _ ⟨rfl, rfl⟩

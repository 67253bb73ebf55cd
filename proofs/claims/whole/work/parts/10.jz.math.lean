theorem mkL.rf {im : XI} : mkL im im := fun _ _ _ => rfl
theorem nI_sm1 (n : Nat) : nI (n + 1) - 1 = nI n := nI_pred n
theorem i_m1 (x : Int32) : x + -1 = x - 1 := by rw [Int32.sub_eq_add_neg]
theorem fitC_01 (s : Nat → Int32) (num : Nat → Int32) (z n p b f : Nat) : fitC s num z n p b f = 0 ∨ fitC s num z n p b f = 1 := fitN_01 _ _ _ _ _ _ _
theorem nI_m1lt {n : Nat} (h : n < 2 ^ 31) : (nI n - 1 < 0) ↔ n = 0 := by
  rw [i_lt, nI_m1 n h]
  show (n : Int) - 1 < 0 ↔ n = 0
  omega
theorem nI_le0 {n : Nat} (h : n < 2 ^ 31) : (nI n ≤ 0) ↔ n = 0 := by
  rw [i_le, nI_toInt h]
  show (n : Int) ≤ 0 ↔ n = 0
  omega

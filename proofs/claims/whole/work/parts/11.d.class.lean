theorem tok_0 {u : Nat} {w v : Int32} (h : w = 0) : tok u w v = v := if_pos h
theorem tok_1 {u : Nat} {w v : Int32} (h : w = 1) : tok u w v = if v = nameC u 0 then -1 else if v = nameC u 1 then -2 else -3 := by
  unfold tok
  rw [if_neg (by rw [h]; decide), if_pos h]
theorem tok_2 {u : Nat} {w v : Int32} (h : w = 2) : tok u w v = -33 := by
  unfold tok
  rw [if_neg (by rw [h]; decide), if_neg (by rw [h]; decide), if_pos h]
theorem tok_3 {u : Nat} {w v : Int32} (h : w = 3) : tok u w v = -v := by
  unfold tok
  rw [if_neg (by rw [h]; decide), if_neg (by rw [h]; decide), if_neg (by rw [h]; decide)]
theorem pX3_named {d : Nat} {im : XI} {S : XS} {t a b c : Int32}  : SpI mX3_named d [.int t, .int a, .int b, .int c] S im (fun x im' => x = (if t = -1 then a else if t = -2 then b else c) ∧ im = im') := by
  refine SpI.of [some (.int t), some (.int a), some (.int b), some (.int c)] rfl (by decide) rfl (fun Q hQ => ?_)
  refine bX3_named_0 (fun h => ?_) (fun h => ?_)
  · refine bX3_named_7 (fun h2 => ?_) (fun h2 => ?_)
    · refine bX3_named_17 ?_
      refine bX3_named_18 ?_
      exact hQ _ _ ⟨by rw [if_neg h, if_neg h2], rfl⟩
    · refine bX3_named_13 ?_
      refine bX3_named_18 ?_
      exact hQ _ _ ⟨by rw [if_neg h, if_pos h2], rfl⟩
  · refine bX3_named_5 ?_
    exact hQ _ _ ⟨(if_pos h).symm, rfl⟩
theorem pX3_joined_124 {d : Nat} {im : XI} {S : XS} {a b : Int32} : SpI mX3_joined d [.int 124, .int a, .int b] S im (fun x im' => x = join0 124 a b ∧ im = im') := by
  refine SpI.of [some (.int 124), some (.int a), some (.int b)] rfl (by decide) rfl (fun Q hQ => ?_)
  refine bX3_joined_0 (fun h => absurd h (by decide)) (fun h => absurd h (by decide)) (fun h => absurd h (by decide)) (fun h => absurd h (by decide)) (fun h => absurd h (by decide)) (fun h => absurd h (by decide)) (fun h => absurd h (by decide)) (fun h => absurd h (by decide)) (fun _ => ?_) (fun h0 h1 h2 h3 h4 h5 h6 h7 h8 => absurd rfl h8)
  have y92 : (¬ a = 0 ∨ ¬ b = 0) → V mX3_joined d (0, 0) 92 [some (.int 124), some (.int a), some (.int b)] [] S im Q := by
    intro h
    refine bX3_joined_92 ?_
    refine bX3_joined_97 ?_
    refine hQ _ _ ⟨?_, rfl⟩
    show 1 = if ¬ a = 0 ∨ ¬ b = 0 then (1 : Int32) else 0
    rw [if_pos h]
  refine bX3_joined_84 (fun h => y92 (Or.inl h)) (fun h => ?_)
  refine bX3_joined_88 (fun h2 => ?_) (fun h2 => y92 (Or.inr h2))
  refine bX3_joined_96 ?_
  refine bX3_joined_97 ?_
  refine hQ _ _ ⟨?_, rfl⟩
  show 0 = if ¬ a = 0 ∨ ¬ b = 0 then (1 : Int32) else 0
  rw [if_neg (fun g => g.elim (fun g => g h) (fun g => g h2))]
theorem pX3_joined_38 {d : Nat} {im : XI} {S : XS} {a b : Int32} : SpI mX3_joined d [.int 38, .int a, .int b] S im (fun x im' => x = join0 38 a b ∧ im = im') := by
  refine SpI.of [some (.int 38), some (.int a), some (.int b)] rfl (by decide) rfl (fun Q hQ => ?_)
  refine bX3_joined_0 (fun _ => ?_) (fun h => absurd h (by decide)) (fun h => absurd h (by decide)) (fun h => absurd h (by decide)) (fun h => absurd h (by decide)) (fun h => absurd h (by decide)) (fun h => absurd h (by decide)) (fun h => absurd h (by decide)) (fun h => absurd h (by decide)) (fun h0 h1 h2 h3 h4 h5 h6 h7 h8 => absurd rfl h0)
  have n110 : ¬ (¬ a = 0 ∧ ¬ b = 0) → V mX3_joined d (0, 0) 110 [some (.int 38), some (.int a), some (.int b)] [] S im Q := by
    intro h
    refine bX3_joined_110 ?_
    refine bX3_joined_111 ?_
    refine hQ _ _ ⟨?_, rfl⟩
    show 0 = if ¬ a = 0 ∧ ¬ b = 0 then (1 : Int32) else 0
    rw [if_neg h]
  refine bX3_joined_98 (fun h => n110 (fun g => g.1 h)) (fun h => ?_)
  refine bX3_joined_102 (fun h2 => n110 (fun g => g.2 h2)) (fun h2 => ?_)
  refine bX3_joined_106 ?_
  refine bX3_joined_111 ?_
  refine hQ _ _ ⟨?_, rfl⟩
  show 1 = if ¬ a = 0 ∧ ¬ b = 0 then (1 : Int32) else 0
  rw [if_pos ⟨h, h2⟩]
theorem pX3_joined_60 {d : Nat} {im : XI} {S : XS} {a b : Int32} : SpI mX3_joined d [.int 60, .int a, .int b] S im (fun x im' => x = join0 60 a b ∧ im = im') := by
  refine SpI.of [some (.int 60), some (.int a), some (.int b)] rfl (by decide) rfl (fun Q hQ => ?_)
  refine bX3_joined_0 (fun h => absurd h (by decide)) (fun h => absurd h (by decide)) (fun h => absurd h (by decide)) (fun h => absurd h (by decide)) (fun h => absurd h (by decide)) (fun _ => ?_) (fun h => absurd h (by decide)) (fun h => absurd h (by decide)) (fun h => absurd h (by decide)) (fun h0 h1 h2 h3 h4 h5 h6 h7 h8 => absurd rfl h5)
  refine bX3_joined_112 (fun h => ?_) (fun h => ?_)
  · refine bX3_joined_121 ?_
    refine bX3_joined_122 ?_
    refine hQ _ _ ⟨?_, rfl⟩
    show 0 = if a < b then (1 : Int32) else 0
    rw [if_neg (by rw [i_lt]; rw [i_le] at h; omega)]
  · refine bX3_joined_117 ?_
    refine bX3_joined_122 ?_
    refine hQ _ _ ⟨?_, rfl⟩
    show 1 = if a < b then (1 : Int32) else 0
    rw [if_pos (by rw [i_lt]; rw [i_le] at h; omega)]
theorem pX3_joined_61 {d : Nat} {im : XI} {S : XS} {a b : Int32} : SpI mX3_joined d [.int 61, .int a, .int b] S im (fun x im' => x = join0 61 a b ∧ im = im') := by
  refine SpI.of [some (.int 61), some (.int a), some (.int b)] rfl (by decide) rfl (fun Q hQ => ?_)
  refine bX3_joined_0 (fun h => absurd h (by decide)) (fun h => absurd h (by decide)) (fun h => absurd h (by decide)) (fun h => absurd h (by decide)) (fun h => absurd h (by decide)) (fun h => absurd h (by decide)) (fun _ => ?_) (fun h => absurd h (by decide)) (fun h => absurd h (by decide)) (fun h0 h1 h2 h3 h4 h5 h6 h7 h8 => absurd rfl h6)
  refine bX3_joined_123 (fun h => ?_) (fun h => ?_)
  · refine bX3_joined_132 ?_
    refine bX3_joined_133 ?_
    refine hQ _ _ ⟨?_, rfl⟩
    show 0 = if a = b then (1 : Int32) else 0
    rw [if_neg (h)]
  · refine bX3_joined_128 ?_
    refine bX3_joined_133 ?_
    refine hQ _ _ ⟨?_, rfl⟩
    show 1 = if a = b then (1 : Int32) else 0
    rw [if_pos (h)]
theorem pX3_joined_62 {d : Nat} {im : XI} {S : XS} {a b : Int32} : SpI mX3_joined d [.int 62, .int a, .int b] S im (fun x im' => x = join0 62 a b ∧ im = im') := by
  refine SpI.of [some (.int 62), some (.int a), some (.int b)] rfl (by decide) rfl (fun Q hQ => ?_)
  refine bX3_joined_0 (fun h => absurd h (by decide)) (fun h => absurd h (by decide)) (fun h => absurd h (by decide)) (fun h => absurd h (by decide)) (fun h => absurd h (by decide)) (fun h => absurd h (by decide)) (fun h => absurd h (by decide)) (fun _ => ?_) (fun h => absurd h (by decide)) (fun h0 h1 h2 h3 h4 h5 h6 h7 h8 => absurd rfl h7)
  refine bX3_joined_134 (fun h => ?_) (fun h => ?_)
  · refine bX3_joined_143 ?_
    refine bX3_joined_144 ?_
    refine hQ _ _ ⟨?_, rfl⟩
    show 0 = if b < a then (1 : Int32) else 0
    rw [if_neg (by rw [i_lt]; rw [i_le] at h; omega)]
  · refine bX3_joined_139 ?_
    refine bX3_joined_144 ?_
    refine hQ _ _ ⟨?_, rfl⟩
    show 1 = if b < a then (1 : Int32) else 0
    rw [if_pos (by rw [i_lt]; rw [i_le] at h; omega)]
theorem pX3_joined_43 {d : Nat} {im : XI} {S : XS} {a b : Int32} : SpI mX3_joined d [.int 43, .int a, .int b] S im (fun x im' => x = join0 43 a b ∧ im = im') := by
  refine SpI.of [some (.int 43), some (.int a), some (.int b)] rfl (by decide) rfl (fun Q hQ => ?_)
  refine bX3_joined_0 (fun h => absurd h (by decide)) (fun h => absurd h (by decide)) (fun _ => ?_) (fun h => absurd h (by decide)) (fun h => absurd h (by decide)) (fun h => absurd h (by decide)) (fun h => absurd h (by decide)) (fun h => absurd h (by decide)) (fun h => absurd h (by decide)) (fun h0 h1 h2 h3 h4 h5 h6 h7 h8 => absurd rfl h2)
  refine bX3_joined_145 ?_
  exact hQ _ _ ⟨rfl, rfl⟩
theorem pX3_joined_45 {d : Nat} {im : XI} {S : XS} {a b : Int32} : SpI mX3_joined d [.int 45, .int a, .int b] S im (fun x im' => x = join0 45 a b ∧ im = im') := by
  refine SpI.of [some (.int 45), some (.int a), some (.int b)] rfl (by decide) rfl (fun Q hQ => ?_)
  refine bX3_joined_0 (fun h => absurd h (by decide)) (fun h => absurd h (by decide)) (fun h => absurd h (by decide)) (fun _ => ?_) (fun h => absurd h (by decide)) (fun h => absurd h (by decide)) (fun h => absurd h (by decide)) (fun h => absurd h (by decide)) (fun h => absurd h (by decide)) (fun h0 h1 h2 h3 h4 h5 h6 h7 h8 => absurd rfl h3)
  refine bX3_joined_149 ?_
  exact hQ _ _ ⟨rfl, rfl⟩
theorem pX3_joined_42 {d : Nat} {im : XI} {S : XS} {a b : Int32} : SpI mX3_joined d [.int 42, .int a, .int b] S im (fun x im' => x = join0 42 a b ∧ im = im') := by
  refine SpI.of [some (.int 42), some (.int a), some (.int b)] rfl (by decide) rfl (fun Q hQ => ?_)
  refine bX3_joined_0 (fun h => absurd h (by decide)) (fun _ => ?_) (fun h => absurd h (by decide)) (fun h => absurd h (by decide)) (fun h => absurd h (by decide)) (fun h => absurd h (by decide)) (fun h => absurd h (by decide)) (fun h => absurd h (by decide)) (fun h => absurd h (by decide)) (fun h0 h1 h2 h3 h4 h5 h6 h7 h8 => absurd rfl h1)
  refine bX3_joined_153 ?_
  exact hQ _ _ ⟨rfl, rfl⟩
theorem pX3_joined_47 {d : Nat} {im : XI} {S : XS} {a b : Int32} : SpI mX3_joined d [.int 47, .int a, .int b] S im (fun x im' => x = join0 47 a b ∧ im = im') := by
  refine SpI.of [some (.int 47), some (.int a), some (.int b)] rfl (by decide) rfl (fun Q hQ => ?_)
  refine bX3_joined_0 (fun h => absurd h (by decide)) (fun h => absurd h (by decide)) (fun h => absurd h (by decide)) (fun h => absurd h (by decide)) (fun _ => ?_) (fun h => absurd h (by decide)) (fun h => absurd h (by decide)) (fun h => absurd h (by decide)) (fun h => absurd h (by decide)) (fun h0 h1 h2 h3 h4 h5 h6 h7 h8 => absurd rfl h4)
  refine bX3_joined_157 (fun h => ?_) (fun h => ?_)
  · refine bX3_joined_165 h ?_
    refine bX3_joined_168 ?_
    refine hQ _ _ ⟨?_, rfl⟩
    show a / b = if b = 0 then 0 else if b = -1 then -a else a / b
    rw [if_neg h]
    by_cases h2 : b = -1
    · rw [if_pos h2, h2, div_m1]
    · rw [if_neg h2]
  · refine bX3_joined_161 ?_
    refine bX3_joined_168 ?_
    refine hQ _ _ ⟨?_, rfl⟩
    show 0 = if b = 0 then 0 else if b = -1 then -a else a / b
    rw [if_pos h]
theorem pX3_joined_37 {d : Nat} {im : XI} {S : XS} {a b : Int32} : SpI mX3_joined d [.int 37, .int a, .int b] S im (fun x im' => x = join0 37 a b ∧ im = im') := by
  refine SpI.of [some (.int 37), some (.int a), some (.int b)] rfl (by decide) rfl (fun Q hQ => ?_)
  refine bX3_joined_0 (fun h => absurd h (by decide)) (fun h => absurd h (by decide)) (fun h => absurd h (by decide)) (fun h => absurd h (by decide)) (fun h => absurd h (by decide)) (fun h => absurd h (by decide)) (fun h => absurd h (by decide)) (fun h => absurd h (by decide)) (fun h => absurd h (by decide)) (fun _ _ _ _ _ _ _ _ _ => ?_)
  refine bX3_joined_169 (fun h => ?_) (fun h => ?_)
  · refine bX3_joined_177 h ?_
    refine bX3_joined_180 ?_
    refine hQ _ _ ⟨?_, rfl⟩
    show jrem a b = if b = 0 ∨ b = -1 then 0 else jrem a b
    by_cases h2 : b = -1
    · rw [if_pos (Or.inr h2), h2, jrem_m1]
    · rw [if_neg (fun g => g.elim h h2)]
  · refine bX3_joined_173 ?_
    refine bX3_joined_180 ?_
    refine hQ _ _ ⟨?_, rfl⟩
    show 0 = if b = 0 ∨ b = -1 then 0 else jrem a b
    rw [if_pos (Or.inl h)]
theorem pX3_joined {d : Nat} {im : XI} {S : XS} {c a b : Int32} (hc : c ∈ signs) : SpI mX3_joined d [.int c, .int a, .int b] S im (fun x im' => x = join0 c a b ∧ im = im') := by
  simp only [signs, List.mem_cons, List.not_mem_nil, or_false] at hc
  rcases hc with rfl | rfl | rfl | rfl | rfl | rfl | rfl | rfl | rfl | rfl
  · exact pX3_joined_124
  · exact pX3_joined_38
  · exact pX3_joined_60
  · exact pX3_joined_61
  · exact pX3_joined_62
  · exact pX3_joined_43
  · exact pX3_joined_45
  · exact pX3_joined_42
  · exact pX3_joined_47
  · exact pX3_joined_37
theorem pX6_size {d : Nat} {im : XI} {S : XS} {r : Nat} (hK : S.1[r]? = some (.inl 6)) : SpI mX6_size d [.ref r] S im (fun x im' => x = im r 1 ∧ im = im') := by
  refine SpI.of [some (.ref r)] rfl (by decide) rfl (fun Q hQ => ?_)
  refine bX6_size_0 hK ?_
  exact hQ _ _ ⟨rfl, rfl⟩
theorem pX6_at {d : Nat} {im : XI} {S : XS} {r a n : Nat} {c k : Nat} {v : Int32} (hK : S.1[r]? = some (.inl 6)) (hA : S.2 r 0 = some a) (hX : XA S a n) (hf : im r 1 = nI c) (hc : c ≤ n) (hv : v = nI k) (hk : k < c) : SpI mX6_at d [.ref r, .int v] S im (fun x im' => x = im a k ∧ im = im') := by
  refine SpI.of [some (.ref r), some (.int v)] rfl (by decide) rfl (fun Q hQ => ?_)
  have hn : n < 100000 := Nat.le_of_ble_eq_true hX.2
  subst hv
  refine bX6_at_0 (fun h => absurd h (nI_pos (by omega))) (fun _ => ?_)
  refine bX6_at_4 hK (fun h => ?_) (fun h => ?_)
  · rw [hf] at h
    exact absurd (ge_i (by omega) (by omega) h) (by omega)
  · refine bX6_at_12 hK hA hX rfl (by omega) ?_
    refine bX6_at_22 ?_
    exact hQ _ _ ⟨rfl, rfl⟩
theorem xne_ra {S : XS} {r a n : Nat} (hK : S.1[r]? = some (.inl 6)) (hX : XA S a n) : r ≠ a := by
  intro h
  have := hX.1
  rw [← h, hK] at this
  cases this
theorem pX6_add {d : Nat} {im : XI} {S : XS} {r a n : Nat} {c : Nat} {v : Int32} (hK : S.1[r]? = some (.inl 6)) (hA : S.2 r 0 = some a) (hX : XA S a n) (hf : im r 1 = nI c) (hc : c ≤ n) : SpI mX6_add d [.ref r, .int v] S im (fun x im' => (c < n ∧ x = 1 ∧ im' = xup (xup im a c v) r 1 (nI (c + 1))) ∨ (c = n ∧ x = 0 ∧ im' = im)) := by
  refine SpI.of [some (.ref r), some (.int v)] rfl (by decide) rfl (fun Q hQ => ?_)
  have hn : n < 100000 := Nat.le_of_ble_eq_true hX.2
  have hne := xne_ra hK hX
  refine bX6_add_0 hK hA hX (fun h => ?_) (fun h => ?_)
  · rw [hf] at h
    have hlt : c < n := (nI_ltI (by omega) (by omega)).mp h
    refine bX6_add_14 hK hA hX hf hlt ?_
    rw [xup_o hne, hf, nI_1]
    exact hQ _ _ (Or.inl ⟨hlt, rfl, rfl⟩)
  · rw [hf] at h
    have hge : ¬ c < n := fun g => h ((nI_ltI (by omega) (by omega)).mpr g)
    refine bX6_add_12 ?_
    exact hQ _ _ (Or.inr ⟨by omega, rfl, rfl⟩)
theorem pX6_clear {d : Nat} {im : XI} {S : XS} {r : Nat} (hK : S.1[r]? = some (.inl 6)) : SpV mX6_clear d [.ref r] S im (fun im' => im' = xup im r 1 0) := by
  refine SpV.of [some (.ref r)] rfl (by decide) rfl (fun Q hQ => ?_)
  refine bX6_clear_0 hK ?_
  exact hQ _ rfl
/-- nothing but a row's first m cells and its length -/
def kRow (r a m : Nat) (im im' : XI) : Prop := ∀ q k, ¬ (q = a ∧ k < m) → ¬ (q = r ∧ k = 1) → im' q k = im q k
theorem pX6_beZeros {d : Nat} {im : XI} {S : XS} {r a n : Nat} {m : Nat} {v : Int32} (hK : S.1[r]? = some (.inl 6)) (hA : S.2 r 0 = some a) (hX : XA S a n) (hv : v = nI m) (hm : m ≤ n) : SpV mX6_beZeros (d + 1) [.ref r, .int v] S im (fun im' => im' r 1 = nI m ∧ (∀ j, j < m → im' a j = 0) ∧ kRow r a m im im') := by
  refine SpV.of [some (.ref r), some (.int v), none] rfl (by decide) rfl (fun Q hQ => ?_)
  have hn : n < 100000 := Nat.le_of_ble_eq_true hX.2
  have hne := xne_ra hK hX
  subst hv
  have key : ∀ (q k : Nat) (im1 : XI), m < k + q → k ≤ m → im1 r 1 = nI k → (∀ j, j < k → im1 a j = 0) → kRow r a m im im1 → V mX6_beZeros (d + 1) (0, 0) 6 [some (.ref r), some (.int (nI m)), some (.int (nI k))] [] S im1 Q := by
    intro q
    induction q with
    | zero => intro k im1 a1 a2; omega
    | succ q ih =>
      intro k im1 a1 a2 h1 hz hkr
      refine bX6_beZeros_6 (fun c => ?_) (fun c => ?_)
      · have := ge_i (by omega) (by omega) c
        obtain rfl : k = m := by omega
        refine bX6_beZeros_23 ?_
        exact hQ _ ⟨h1, hz, hkr⟩
      · have hk := lt_i (by omega) (by omega) c
        refine bX6_beZeros_11 hK (pX6_add hK hA hX h1 (by omega)) ?_
        rintro x im2 (⟨g1, rfl, rfl⟩ | ⟨g1, _⟩)
        rotate_left
        · omega
        refine bX6_beZeros_16 ?_
        rw [nI_1]
        refine ih (k + 1) _ (by omega) (by omega) xup_at ?_ ?_
        · intro j hj
          rw [xup_o (fun e => hne e.symm)]
          by_cases hjk : j = k
          · rw [hjk, xup_at]
          · rw [xup_ne hjk]
            exact hz j (by omega)
        · intro q' k' g2 g3
          have e1 : ¬ (q' = r ∧ k' = 1) := g3
          have e2 : ¬ (q' = a ∧ k' = k) := fun h => g2 ⟨h.1, by omega⟩
          show xup (xup im1 a k 0) r 1 _ q' k' = _
          simp only [xup]
          rw [if_neg e1, if_neg e2]
          exact hkr q' k' g2 g3
  refine bX6_beZeros_0 hK (pX6_clear hK) ?_
  rintro _ rfl
  refine bX6_beZeros_4 ?_
  refine key (m + 1) 0 _ (by omega) (by omega) xup_at (fun j hj => absurd hj (Nat.not_lt_zero j)) ?_
  intro q' k' g2 g3
  simp only [xup]
  rw [if_neg g3]
theorem pX6_spans {d : Nat} {im : XI} {S : XS} {r : Nat} {i n : Int32} (hK : S.1[r]? = some (.inl 6)) : SpI mX6_spans d [.ref r, .int i, .int n] S im (fun x im' => x = b2i (¬ i < 0 ∧ ¬ n < 0 ∧ ¬ im r 1 < i ∧ ¬ im r 1 - i < n) ∧ im = im') := by
  refine SpI.of [some (.ref r), some (.int i), some (.int n)] rfl (by decide) rfl (fun Q hQ => ?_)
  have bad : ¬ (¬ i < 0 ∧ ¬ n < 0 ∧ ¬ im r 1 < i ∧ ¬ im r 1 - i < n) → V mX6_spans d (0, 0) 30 [some (.ref r), some (.int i), some (.int n)] [] S im Q := by
    intro h
    refine bX6_spans_30 ?_
    refine bX6_spans_31 (Or.inl rfl) ?_
    exact hQ _ _ ⟨(b2i_f h).symm, rfl⟩
  refine bX6_spans_0 (fun h => bad (fun g => g.1 h)) (fun h1 => ?_)
  refine bX6_spans_4 (fun h => bad (fun g => g.2.1 h)) (fun h2 => ?_)
  refine bX6_spans_8 hK (fun h => bad (fun g => g.2.2.1 h)) (fun h3 => ?_)
  refine bX6_spans_16 hK (fun h => bad (fun g => g.2.2.2 h)) (fun h4 => ?_)
  refine bX6_spans_26 ?_
  refine bX6_spans_31 (Or.inr rfl) ?_
  exact hQ _ _ ⟨(b2i_t ⟨h1, h2, h3, h4⟩).symm, rfl⟩
theorem xspan {a b f : Nat} (hf : f < 1000) (h : a + b ≤ f) : ¬ (nI a : Int32) < 0 ∧ ¬ (nI b : Int32) < 0 ∧ ¬ nI f < nI a ∧ ¬ nI f - nI a < nI b := by
  refine ⟨nI_pos (by omega), nI_pos (by omega), fun g => ?_, fun g => ?_⟩
  · have := (nI_ltI (by omega) (by omega)).mp g; omega
  · rw [pk_sub (by omega)] at g
    have := (nI_ltI (by omega) (by omega)).mp g; omega
theorem pX6_takeFrom {d : Nat} {im : XI} {S : XS} {r a n r2 a2 n2 i j m f f2 : Nat} {v w y : Int32} (hK : S.1[r]? = some (.inl 6)) (hA : S.2 r 0 = some a) (hX : XA S a n) (hK2 : S.1[r2]? = some (.inl 6)) (hA2 : S.2 r2 0 = some a2) (hX2 : XA S a2 n2) (hv : v = nI i) (hw : w = nI j) (hy : y = nI m) (hf : im r 1 = nI f) (hf2 : im r2 1 = nI f2) (h1 : i + m ≤ f2) (h2 : j + m ≤ f) (hfn : f ≤ n) (hfn2 : f2 ≤ n2) (hs : f < 1000) (hs2 : f2 < 1000) : SpV mX6_takeFrom (d + 1) [.ref r, .ref r2, .int v, .int w, .int y] S im (fun im' => im' = xcp im a2 i a j m) := by
  refine SpV.of [some (.ref r), some (.ref r2), some (.int v), some (.int w), some (.int y)] rfl (by decide) rfl (fun Q hQ => ?_)
  subst hv; subst hw; subst hy
  refine bX6_takeFrom_0 hK2 (pX6_spans hK2) ?_
  rintro _ _ ⟨rfl, rfl⟩
  refine bX6_takeFrom_7 (fun c => ?_) (fun _ => ?_)
  · rw [b2i_z] at c
    exact absurd (by rw [hf2]; exact xspan hs2 h1) c
  refine bX6_takeFrom_10 hK (pX6_spans hK) ?_
  rintro _ _ ⟨rfl, rfl⟩
  refine bX6_takeFrom_17 (fun c => ?_) (fun _ => ?_)
  · rw [b2i_z] at c
    exact absurd (by rw [hf]; exact xspan hs h2) c
  refine bX6_takeFrom_20 hK2 hA2 hK hA hX2 hX rfl rfl rfl (by omega) (by omega) ?_
  refine bX6_takeFrom_35 ?_
  exact hQ _ rfl
theorem pX6_beLike {d : Nat} {im : XI} {S : XS} {r a n r2 a2 n2 m : Nat} (hK : S.1[r]? = some (.inl 6)) (hA : S.2 r 0 = some a) (hX : XA S a n) (hK2 : S.1[r2]? = some (.inl 6)) (hA2 : S.2 r2 0 = some a2) (hX2 : XA S a2 n2) (hf2 : im r2 1 = nI m) (hm : m ≤ n) (hm2 : m ≤ n2) (hs : m < 1000) (hr : r ≠ r2) (ha : a ≠ a2) : SpV mX6_beLike (d + 2) [.ref r, .ref r2] S im (fun im' => im' r 1 = nI m ∧ (∀ j, j < m → im' a j = im a2 j) ∧ kRow r a m im im') := by
  refine SpV.of [some (.ref r), some (.ref r2)] rfl (by decide) rfl (fun Q hQ => ?_)
  have hra := xne_ra hK hX
  have hr2a : r2 ≠ a := xne_ra hK2 hX
  have hra2 : r ≠ a2 := xne_ra hK hX2
  refine bX6_beLike_0 hK2 hK (pX6_beZeros hK hA hX hf2 hm) ?_
  rintro im1 ⟨e1, e2, e3⟩
  have e4 : im1 r2 1 = nI m := (e3 r2 1 (fun h => hr2a h.1) (fun h => hr h.1.symm)).trans hf2
  refine bX6_beLike_8 hK2 hK (pX6_takeFrom (i := 0) (j := 0) (m := m) (f := m) (f2 := m) hK hA hX hK2 hA2 hX2 rfl rfl e4 e1 e4 (by omega) (by omega) hm hm2 hs hs) ?_
  rintro _ rfl
  refine bX6_beLike_19 ?_
  refine hQ _ ⟨?_, fun j hj => ?_, ?_⟩
  · rw [show xcp im1 a2 0 a 0 m r 1 = im1 r 1 by simp [xcp, hra]]
    exact e1
  · rw [show xcp im1 a2 0 a 0 m a j = im1 a2 j by simp [xcp, hj]]
    exact e3 a2 j (fun h => ha h.1.symm) (fun h => hra2 h.1.symm)
  · intro q k g1 g2
    have : xcp im1 a2 0 a 0 m q k = im1 q k := by
      by_cases hq : q = a
      · subst hq
        have : ¬ k < m := fun h => g1 ⟨rfl, h⟩
        simp [xcp, this]
      · simp [xcp, hq]
    rw [this]
    exact e3 q k g1 g2

theorem pX4_deafBlinks {d : Nat} {im : XI} {S : XS} {a : Nat} {t r m : Int32} (hK : S.1[a]? = some (.inl 4)) (h1 : im a 1 = m) : SpI mX4_deafBlinks d [.ref a, .int t, .int r] S im (fun x im' => x = deaf0 t m r ∧ im = im') := by
  refine SpI.of [some (.ref a), some (.int t), some (.int r)] rfl (by decide) rfl (fun Q hQ => ?_)
  refine bX4_deafBlinks_0 (fun c => ?_) (fun c => ?_)
  · refine bX4_deafBlinks_20 ?_
    refine bX4_deafBlinks_21 (Or.inl rfl) ?_
    exact hQ _ _ ⟨(if_neg (fun h => c h.1)).symm, rfl⟩
  · refine bX4_deafBlinks_4 hK (fun c2 => ?_) (fun c2 => ?_)
    · rw [h1] at c2
      refine bX4_deafBlinks_20 ?_
      refine bX4_deafBlinks_21 (Or.inl rfl) ?_
      exact hQ _ _ ⟨(if_neg (fun h => h.2 c2)).symm, rfl⟩
    · rw [h1] at c2
      refine bX4_deafBlinks_16 ?_
      refine bX4_deafBlinks_21 (Or.inr rfl) ?_
      exact hQ _ _ ⟨(if_pos ⟨c, c2⟩).symm, rfl⟩
theorem pX4_blinks {d : Nat} {im : XI} {S : XS} {a : Nat} {kd m : Int32} {t r : Int32} (hK : S.1[a]? = some (.inl 4)) (h0 : im a 0 = kd) (h1 : im a 1 = m) : SpI mX4_blinks (d + 1) [.ref a, .int t, .int r] S im (fun x im' => x = blinks0 kd m t r ∧ im = im') := by
  refine SpI.of [some (.ref a), some (.int t), some (.int r)] rfl (by decide) rfl (fun Q hQ => ?_)
  refine bX4_blinks_0 hK (fun e => ?_) (fun e => ?_) (fun e => ?_) (fun e => ?_) (fun e => ?_) (fun n2 n3 n4 n5 n6 => ?_)
  · rw [h0] at e
    refine bX4_blinks_40 hK (pX4_deafBlinks hK h1) ?_
    rintro _ _ ⟨rfl, rfl⟩
    refine bX4_blinks_46 (by unfold deaf0; split <;> simp) ?_
    refine hQ _ _ ⟨?_, rfl⟩
    unfold blinks0
    rw [if_pos e]
  · rw [h0] at e
    refine bX4_blinks_47 (fun c => ?_) (fun c => ?_)
    · refine bX4_blinks_56 ?_
      refine bX4_blinks_57 (Or.inl rfl) ?_
      refine hQ _ _ ⟨?_, rfl⟩
      unfold blinks0
      rw [if_neg (fun h => absurd (e.symm.trans h) (by decide)), if_pos e, if_neg (by rw [i_lt]; rw [i_le] at c; omega)]
    · refine bX4_blinks_52 ?_
      refine bX4_blinks_57 (Or.inr rfl) ?_
      refine hQ _ _ ⟨?_, rfl⟩
      unfold blinks0
      rw [if_neg (fun h => absurd (e.symm.trans h) (by decide)), if_pos e, if_pos (by rw [i_lt]; rw [i_le] at c; omega)]
  · rw [h0] at e
    have y : (r = 0 ∨ jrem t 12 = m) → V mX4_blinks (d + 1) (0, 0) 73 [some (.ref a), some (.int t), some (.int r)] [] S im Q := by
      intro h
      refine bX4_blinks_73 ?_
      refine bX4_blinks_78 (Or.inr rfl) ?_
      refine hQ _ _ ⟨?_, rfl⟩
      unfold blinks0
      rw [if_neg (fun h => absurd (e.symm.trans h) (by decide)), if_neg (fun h => absurd (e.symm.trans h) (by decide)), if_pos e, if_pos h]
    refine bX4_blinks_58 (fun c => y (Or.inl c)) (fun c => ?_)
    refine bX4_blinks_62 hK (fun c2 => ?_) (fun c2 => y (Or.inr (by rw [h1] at c2; exact c2)))
    rw [h1] at c2
    refine bX4_blinks_77 ?_
    refine bX4_blinks_78 (Or.inl rfl) ?_
    refine hQ _ _ ⟨?_, rfl⟩
    unfold blinks0
    rw [if_neg (fun h => absurd (e.symm.trans h) (by decide)), if_neg (fun h => absurd (e.symm.trans h) (by decide)), if_pos e, if_neg (fun h => h.elim c c2)]
  · rw [h0] at e
    refine bX4_blinks_79 hK (pX4_deafBlinks hK h1) ?_
    rintro _ _ ⟨rfl, rfl⟩
    have n101 : ¬ (deaf0 t m r = 1 ∧ 6 < m) → V mX4_blinks (d + 1) (0, 0) 101 [some (.ref a), some (.int t), some (.int r)] [] S im Q := by
      intro h
      refine bX4_blinks_101 ?_
      refine bX4_blinks_102 (Or.inl rfl) ?_
      refine hQ _ _ ⟨?_, rfl⟩
      unfold blinks0
      rw [if_neg (fun h => absurd (e.symm.trans h) (by decide)), if_neg (fun h => absurd (e.symm.trans h) (by decide)), if_neg (fun h => absurd (e.symm.trans h) (by decide)), if_pos e, if_neg h]
    refine bX4_blinks_85 (fun c => n101 (fun h => by rw [h.1] at c; exact absurd c (by decide))) (fun c => ?_)
    refine bX4_blinks_88 hK (fun c2 => n101 (fun h => by rw [h1, i_le] at c2; have := h.2; rw [i_lt] at this; omega)) (fun c2 => ?_)
    rw [h1] at c2
    refine bX4_blinks_97 ?_
    refine bX4_blinks_102 (Or.inr rfl) ?_
    refine hQ _ _ ⟨?_, rfl⟩
    have c' : deaf0 t m r = 1 := by
      unfold deaf0 at c ⊢
      split
      · rfl
      · rename_i h
        rw [if_neg h] at c
        exact absurd rfl c
    unfold blinks0
    rw [if_neg (fun h => absurd (e.symm.trans h) (by decide)), if_neg (fun h => absurd (e.symm.trans h) (by decide)), if_neg (fun h => absurd (e.symm.trans h) (by decide)), if_pos e, if_pos ⟨c', by rw [i_lt]; rw [i_le] at c2; omega⟩]
  · rw [h0] at e
    have y : (r = 0 ∨ jrem t 7 = jrem m 7) → V mX4_blinks (d + 1) (0, 0) 121 [some (.ref a), some (.int t), some (.int r)] [] S im Q := by
      intro h
      refine bX4_blinks_121 ?_
      refine bX4_blinks_126 (Or.inr rfl) ?_
      refine hQ _ _ ⟨?_, rfl⟩
      unfold blinks0
      rw [if_neg (fun h => absurd (e.symm.trans h) (by decide)), if_neg (fun h => absurd (e.symm.trans h) (by decide)), if_neg (fun h => absurd (e.symm.trans h) (by decide)), if_neg (fun h => absurd (e.symm.trans h) (by decide)), if_pos e, if_pos h]
    refine bX4_blinks_103 (fun c => y (Or.inl c)) (fun c => ?_)
    refine bX4_blinks_107 hK (fun c2 => ?_) (fun c2 => y (Or.inr (by rw [h1] at c2; exact c2)))
    rw [h1] at c2
    refine bX4_blinks_125 ?_
    refine bX4_blinks_126 (Or.inl rfl) ?_
    refine hQ _ _ ⟨?_, rfl⟩
    unfold blinks0
    rw [if_neg (fun h => absurd (e.symm.trans h) (by decide)), if_neg (fun h => absurd (e.symm.trans h) (by decide)), if_neg (fun h => absurd (e.symm.trans h) (by decide)), if_neg (fun h => absurd (e.symm.trans h) (by decide)), if_pos e, if_neg (fun h => h.elim c c2)]
  · rw [h0] at n2 n3 n4 n5 n6
    refine bX4_blinks_127 (fun c => ?_) (fun c => ?_)
    · refine bX4_blinks_135 ?_
      refine bX4_blinks_136 (Or.inl rfl) ?_
      refine hQ _ _ ⟨?_, rfl⟩
      unfold blinks0
      rw [if_neg n2, if_neg n3, if_neg n4, if_neg n5, if_neg n6, if_neg c]
    · refine bX4_blinks_131 ?_
      refine bX4_blinks_136 (Or.inr rfl) ?_
      refine hQ _ _ ⟨?_, rfl⟩
      unfold blinks0
      rw [if_neg n2, if_neg n3, if_neg n4, if_neg n5, if_neg n6, if_pos c]
theorem pX4_bankerTries {d : Nat} {im : XI} {S : XS} {a : Nat} {m : Int32} (hK : S.1[a]? = some (.inl 4)) (h1 : im a 1 = m) : SpI mX4_bankerTries d [.ref a] S im (fun x im' => x = 2 + m / 5 ∧ im = im') := by
  refine SpI.of [some (.ref a)] rfl (by decide) rfl (fun Q hQ => ?_)
  refine bX4_bankerTries_0 hK ?_
  rw [h1]
  exact hQ _ _ ⟨rfl, rfl⟩
theorem pX4_tries {d : Nat} {im : XI} {S : XS} {a : Nat} {kd m : Int32} {dn : Int32} (hK : S.1[a]? = some (.inl 4)) (h0 : im a 0 = kd) (h1 : im a 1 = m) : SpI mX4_tries (d + 1) [.ref a, .int dn] S im (fun x im' => x = tries0 kd m dn ∧ im = im') := by
  refine SpI.of [some (.ref a), some (.int dn)] rfl (by decide) rfl (fun Q hQ => ?_)
  refine bX4_tries_0 hK (fun e => ?_) (fun e => ?_) (fun e => ?_) (fun e => ?_) (fun e => ?_) (fun n1 n3 n4 n5 n6 => ?_)
  · rw [h0] at e
    refine bX4_tries_44 hK (pX4_bankerTries hK h1) ?_
    rintro _ _ ⟨rfl, rfl⟩
    refine bX4_tries_48 ?_
    refine hQ _ _ ⟨?_, rfl⟩
    unfold tries0
    rw [if_pos e]
  · rw [h0] at e
    refine bX4_tries_49 ?_
    refine hQ _ _ ⟨?_, rfl⟩
    unfold tries0
    rw [if_neg (fun h => absurd (e.symm.trans h) (by decide)), if_pos e]
  · rw [h0] at e
    refine bX4_tries_53 hK (pX4_bankerTries hK h1) ?_
    rintro _ _ ⟨rfl, rfl⟩
    refine bX4_tries_58 ?_
    refine hQ _ _ ⟨?_, rfl⟩
    unfold tries0
    rw [if_neg (fun h => absurd (e.symm.trans h) (by decide)), if_neg (fun h => absurd (e.symm.trans h) (by decide)), if_pos e]
  · rw [h0] at e
    refine bX4_tries_60 ?_
    refine hQ _ _ ⟨?_, rfl⟩
    unfold tries0
    rw [if_neg (fun h => absurd (e.symm.trans h) (by decide)), if_neg (fun h => absurd (e.symm.trans h) (by decide)), if_neg (fun h => absurd (e.symm.trans h) (by decide)), if_pos e]
  · rw [h0] at e
    refine bX4_tries_62 ?_
    refine hQ _ _ ⟨?_, rfl⟩
    unfold tries0
    rw [if_neg (fun h => absurd (e.symm.trans h) (by decide)), if_neg (fun h => absurd (e.symm.trans h) (by decide)), if_neg (fun h => absurd (e.symm.trans h) (by decide)), if_neg (fun h => absurd (e.symm.trans h) (by decide)), if_pos e]
  · rw [h0] at n1 n3 n4 n5 n6
    refine bX4_tries_64 ?_
    refine hQ _ _ ⟨?_, rfl⟩
    unfold tries0
    rw [if_neg n1, if_neg n3, if_neg n4, if_neg n5, if_neg n6]

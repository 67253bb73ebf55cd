theorem pX10_shutTold {d : Nat} {im : XI} {s : Nat → Int32} {r i t : Int32} (hs : im 1 = s) (ht : textOk s 0) : SpI mX10_shutTold (d + 2) [.ref 0, .int r, .int i, .int t] SM im (fun x im' => x = told0 s r i t ∧ im' 1 = s ∧ mk im im') := by
  refine SpI.of [some (.ref 0), some (.int r), some (.int i), some (.int t)] rfl (by decide) rfl (fun Q hQ => ?_)
  obtain ⟨imX, hX⟩ : ∃ z, z = (xup (xup (xup im 6 114 r) 6 115 i) 6 116 t) := ⟨_, rfl⟩
  have hsX : imX 1 = s := by rw [hX, xup_o (by decide), xup_o (by decide), xup_o (by decide)]; exact hs
  have hmX : mk im imX := by rw [hX]; exact ((mk.rf.up (mg6 _)).up (mg6 _)).up (mg6 _)
  have hnX : ∀ j, j < 3 → imX 6 (nnat (nameC 0 j)) = nm0 0 r i t (nameC 0 j) := by
    intro j hj
    rw [hX]
    match j, hj with
    | 0, _ => rfl
    | 1, _ => rfl
    | 2, _ => rfl
  refine bX10_shutTold_0   (by rw [← hX]; exact pX10_hasText (u := 0) hsX rfl (by decide)) ?_
  rintro _ _ ⟨rfl, rfl⟩
  refine bX10_shutTold_29   (fun c2 => ?_) (fun c2 => ?_)
  · skip
    try simp only [b2i_z, Classical.not_not] at c2
    refine bX10_shutTold_40   ?_
    refine bX10_shutTold_41   pX10_held ?_
    rintro _ _ ⟨rfl, rfl⟩
    refine bX10_shutTold_46   ?_
    exact hQ _ _ ⟨by unfold told0; first | rw [if_pos (by assumption)] | rw [if_neg (by assumption)], hsX, hmX⟩
  · skip
    try simp only [b2i_z, Classical.not_not] at c2
    refine bX10_shutTold_32   (pX10_worked (u := 0) (a := r) (b := i) (c := t) hsX rfl (by decide) ht (by assumption) hnX) ?_
    rintro _ im4 ⟨rfl, hs4, hm4⟩
    refine bX10_shutTold_37   ?_
    refine bX10_shutTold_41   pX10_held ?_
    rintro _ _ ⟨rfl, rfl⟩
    refine bX10_shutTold_46   ?_
    exact hQ _ _ ⟨by unfold told0; first | rw [if_pos (by assumption)] | rw [if_neg (by assumption)], hs4, ((hmX).tr hm4)⟩
theorem pX10_onTold {d : Nat} {im : XI} {s : Nat → Int32} {p o l : Int32} (hs : im 1 = s) (ht : textOk s 1) : SpI mX10_onTold (d + 2) [.ref 0, .int p, .int o, .int l] SM im (fun x im' => x = on0 s p o l ∧ im' 1 = s ∧ mk im im') := by
  refine SpI.of [some (.ref 0), some (.int p), some (.int o), some (.int l)] rfl (by decide) rfl (fun Q hQ => ?_)
  obtain ⟨imX, hX⟩ : ∃ z, z = (xup (xup (xup im 6 112 p) 6 111 o) 6 108 l) := ⟨_, rfl⟩
  have hsX : imX 1 = s := by rw [hX, xup_o (by decide), xup_o (by decide), xup_o (by decide)]; exact hs
  have hmX : mk im imX := by rw [hX]; exact ((mk.rf.up (mg6 _)).up (mg6 _)).up (mg6 _)
  have hnX : ∀ j, j < 3 → imX 6 (nnat (nameC 1 j)) = nm0 1 p o l (nameC 1 j) := by
    intro j hj
    rw [hX]
    match j, hj with
    | 0, _ => rfl
    | 1, _ => rfl
    | 2, _ => rfl
  refine bX10_onTold_0   (by rw [← hX]; exact pX10_hasText (u := 1) hsX rfl (by decide)) ?_
  rintro _ _ ⟨rfl, rfl⟩
  refine bX10_onTold_29   (fun c2 => ?_) (fun c2 => ?_)
  · skip
    try simp only [b2i_z, Classical.not_not] at c2
    refine bX10_onTold_40   ?_
    refine bX10_onTold_41   pX10_held ?_
    rintro _ _ ⟨rfl, rfl⟩
    refine bX10_onTold_47   ?_
    exact hQ _ _ ⟨by unfold on0; first | rw [if_pos (by assumption)] | rw [if_neg (by assumption)], hsX, hmX⟩
  · skip
    try simp only [b2i_z, Classical.not_not] at c2
    refine bX10_onTold_32   (pX10_worked (u := 1) (a := p) (b := o) (c := l) hsX rfl (by decide) ht (by assumption) hnX) ?_
    rintro _ im4 ⟨rfl, hs4, hm4⟩
    refine bX10_onTold_37   ?_
    refine bX10_onTold_41   pX10_held ?_
    rintro _ _ ⟨rfl, rfl⟩
    refine bX10_onTold_47   ?_
    exact hQ _ _ ⟨by unfold on0; first | rw [if_pos (by assumption)] | rw [if_neg (by assumption)], hs4, ((hmX).tr hm4)⟩
theorem pX10_shutOf {d : Nat} {im : XI} {s : Nat → Int32} {p : Nat} (hs : im 1 = s) (hp : p < 6) (hb : ¬ s (10 + 4 * p) = 0) (ht : textOk s 0) : SpI mX10_shutOf (d + 3) [.ref 0, .int (nI p)] SM im (fun x im' => x = shut0 s p ∧ im' 1 = s ∧ mk im im') := by
  refine SpI.of [some (.ref 0), some (.int (nI p)), none] rfl (by decide) rfl (fun Q hQ => ?_)
  refine bX10_shutOf_0   (qX10_its (w := 3) (i := 11 + 4 * _) hs rfl rfl rfl (by omega)) ?_
  rintro _ _ ⟨rfl, rfl⟩
  try simp only [hs]
  refine bX10_shutOf_12   (qX10_its (w := 2) (i := 10 + 4 * _) hs rfl rfl rfl (by omega)) ?_
  rintro _ _ ⟨rfl, rfl⟩
  try simp only [hs]
  refine bX10_shutOf_19  (by first | assumption | rfl | omega | decide) (pX10_blinksNow hs (by omega) (by assumption)) ?_
  rintro _ _ ⟨rfl, rfl⟩
  try simp only [hs]
  refine bX10_shutOf_28   (fun c4 => ?_) (fun c4 => ?_)
  · skip
    refine bX10_shutOf_35   ?_
    refine bX10_shutOf_36  (by first | rfl | assumption) (pX10_shutTold hs (by assumption)) ?_
    rintro _ im5 ⟨rfl, hs5, hm5⟩
    try simp only [hs5]
    refine bX10_shutOf_48   ?_
    refine hQ _ _ ⟨?_, hs5, ((mk.rf).tr hm5)⟩
    rw [hs]
    unfold shut0 shutG
    first | (rw [show blinks0 (s (8 + 4 * p)) (s (9 + 4 * p)) (s 0) (rest0 (s 0) (s (11 + 4 * p)) (s (10 + 4 * p))) = 0 by assumption]; rfl) | (rw [show blinks0 (s (8 + 4 * p)) (s (9 + 4 * p)) (s 0) (rest0 (s 0) (s (11 + 4 * p)) (s (10 + 4 * p))) = 1 from (blinks0_01 _ _ _ _).resolve_left (by assumption)]; rfl)
  · skip
    refine bX10_shutOf_31   ?_
    refine bX10_shutOf_36  (by first | rfl | assumption) (pX10_shutTold hs (by assumption)) ?_
    rintro _ im6 ⟨rfl, hs6, hm6⟩
    try simp only [hs6]
    refine bX10_shutOf_48   ?_
    refine hQ _ _ ⟨?_, hs6, ((mk.rf).tr hm6)⟩
    rw [hs]
    unfold shut0 shutG
    first | (rw [show blinks0 (s (8 + 4 * p)) (s (9 + 4 * p)) (s 0) (rest0 (s 0) (s (11 + 4 * p)) (s (10 + 4 * p))) = 0 by assumption]; rfl) | (rw [show blinks0 (s (8 + 4 * p)) (s (9 + 4 * p)) (s 0) (rest0 (s 0) (s (11 + 4 * p)) (s (10 + 4 * p))) = 1 from (blinks0_01 _ _ _ _).resolve_left (by assumption)]; rfl)

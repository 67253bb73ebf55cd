theorem pX10_move {d : Nat} {im : XI} {s : Nat → Int32} {z0 i y0 j n : Int32} (hs : im 1 = s) (hsz : ∀ z, z < 4 → ∃ m : Nat, m ≤ 24 ∧ im 10 z = nI m) : SpI mX10_move (d + 2) [.ref 0, .int z0, .int i, .int y0, .int j, .int n] SM im (fun x im' => opMove im s z0 i y0 j n x im') := by
  refine SpI.of [some (.ref 0), some (.int z0), some (.int i), some (.int y0), some (.int j), some (.int n), none] rfl (by decide) rfl (fun Q hQ => ?_)
  refine bX10_move_0 pX10_isSheet ?_
  rintro _ _ ⟨rfl, rfl⟩
  have bad : ¬ (okSh z0 ∧ okSh y0) → V mX10_move (d + 2) (0, 0) 14 [some (.ref 0), some (.int z0), some (.int i), some (.int y0), some (.int j), some (.int n), none] [] SM im Q := by
    intro h
    refine bX10_move_14 (pX10_error (k := 1) rfl (by decide)) ?_
    rintro _ _ ⟨rfl, rfl⟩
    refine bX10_move_19 ?_
    refine hQ _ _ ?_
    unfold opMove
    rw [if_pos h]
    exact Pm.er rfl hs mk.rf (by decide)
  refine bX10_move_4 (fun c => ?_) (fun c => ?_)
  · rw [b2i_z] at c
    exact bad (fun h => c h.1)
  rw [b2i_z, Classical.not_not] at c
  refine bX10_move_7 pX10_isSheet ?_
  rintro _ _ ⟨rfl, rfl⟩
  refine bX10_move_11 (fun c2 => ?_) (fun c2 => ?_)
  rotate_left
  · rw [b2i_z] at c2; exact bad (fun h => c2 h.2)
  rw [b2i_z, Classical.not_not] at c2
  have hc : okSh z0 ∧ okSh y0 := ⟨c, c2⟩
  obtain ⟨z, hz3, rfl⟩ := (in_c (x := z0) (n := 3) rfl (by decide)).mp c
  obtain ⟨y, hy3, rfl⟩ := (in_c (x := y0) (n := 3) rfl (by decide)).mp c2
  have hz4 : z < 4 := by omega
  have hy4 : y < 4 := by omega
  have hzn : nnat (nI z) = z := nnat_nI (by omega)
  have hyn : nnat (nI y) = y := nnat_nI (by omega)
  obtain ⟨m, hm, hz⟩ := hsz z hz4
  obtain ⟨m2, hm2, hy⟩ := hsz y hy4
  have bad2 : (im 9 z = 0 ∨ im 9 y = 0) → V mX10_move (d + 2) (0, 0) 38 [some (.ref 0), some (.int (nI z)), some (.int i), some (.int (nI y)), some (.int j), some (.int n), none] [] SM im Q := by
    intro h
    refine bX10_move_38 (pX10_error (k := 2) rfl (by decide)) ?_
    rintro _ _ ⟨rfl, rfl⟩
    refine bX10_move_43 ?_
    refine hQ _ _ ?_
    unfold opMove
    rw [if_neg (not_not_intro hc), hzn, hyn, opMoveN, if_pos h]
    exact Pm.er rfl hs mk.rf (by decide)
  refine bX10_move_20 rfl hz4 (fun h => bad2 (Or.inl h)) (fun c3 => ?_)
  refine bX10_move_29 rfl hy4 (fun c4 => ?_) (fun h => bad2 (Or.inr h))
  have hc3 : ¬ (im 9 z = 0 ∨ im 9 y = 0) := fun h => h.elim c3 c4
  refine bX10_move_44 rfl hz4 rfl hy4 (fun c5 => ?_) (fun c5 => ?_)
  rotate_left
  · skip
    refine bX10_move_59 (pX10_error (k := 5) rfl (by decide)) ?_
    rintro _ _ ⟨rfl, rfl⟩
    refine bX10_move_64 ?_
    refine hQ _ _ ?_
    unfold opMove
    rw [if_neg (not_not_intro hc), hzn, hyn, opMoveN, if_neg hc3, if_pos c5]
    exact Pm.er rfl hs mk.rf (by decide)
  have bad3 : ¬ okMv (im 10) z i y j n → V mX10_move (d + 2) (0, 0) 106 [some (.ref 0), some (.int (nI z)), some (.int i), some (.int (nI y)), some (.int j), some (.int n), none] [] SM im Q := by
    intro h
    refine bX10_move_106 (pX10_error (k := 1) rfl (by decide)) ?_
    rintro _ _ ⟨rfl, rfl⟩
    refine bX10_move_111 ?_
    refine hQ _ _ ?_
    unfold opMove
    rw [if_neg (not_not_intro hc), hzn, hyn, opMoveN, if_neg hc3, if_neg (not_not_intro c5), if_pos h]
    exact Pm.er rfl hs mk.rf (by decide)
  refine bX10_move_65 (fun h => bad3 (fun g => g.1 h)) (fun c6 => ?_)
  refine bX10_move_70 (fun h => bad3 (fun g => g.2.1 h)) (fun c7 => ?_)
  refine bX10_move_74 (fun h => bad3 (fun g => g.2.2.1 h)) (fun c8 => ?_)
  refine bX10_move_79 rfl hz4 (fun h => bad3 (fun g => by have g4 := g.2.2.2.1; rw [i_le] at g4; rw [i_lt] at h; omega)) (fun c9 => ?_)
  have c9' : i ≤ im 10 z - n := by rw [i_le]; rw [i_lt] at c9; omega
  refine bX10_move_92 rfl hy4 (fun c10 => ?_) (fun h => bad3 (fun g => h g.2.2.2.2))
  have hok : okMv (im 10) z i y j n := ⟨c6, c7, c8, c9', c10⟩
  rw [hz] at c9'
  rw [hy] at c10
  obtain ⟨a, b, rfl, rfl, hb⟩ := le_sub hm c6 c7 c9'
  obtain ⟨a2, e, ea, rfl, he⟩ := le_sub hm2 c6 c8 c10
  have ha2 : a < 2 ^ 31 := by omega
  obtain rfl : a = a2 := (nI_eq ha2 (by omega)).mp ea
  have key2 : ∀ (q k : Nat) (im1 : XI), a < k + q → k ≤ a → im1 1 = s → im1 9 = im 9 → im1 10 = im 10 → (∀ r, r < a → im1 12 r = im 11 (24 * z + b + r)) → im1 11 = mvd (im 11) z b y e k → mkS im im1 → V mX10_move (d + 2) (0, 0) 152 [some (.ref 0), some (.int (nI z)), some (.int (nI b)), some (.int (nI y)), some (.int (nI e)), some (.int (nI a)), some (.int (nI k))] [] SM im1 Q := by
    intro q
    induction q with
    | zero => intro k im1 a1 a2; omega
    | succ q ih =>
      intro k im1 a1 a2 e1 e9 e10 e12 e11 hmm
      refine bX10_move_152 (fun d1 => ?_) (fun d1 => ?_)
      · have := ge_i (by omega) (by omega) d1
        obtain rfl : k = a := by omega
        refine bX10_move_187 ?_
        refine hQ _ _ ?_
        unfold opMove
        rw [if_neg (not_not_intro hc), hzn, hyn, opMoveN, if_neg hc3, if_neg (not_not_intro c5), if_neg (not_not_intro hok), nnat_nI (n := k) (by omega), nnat_nI (n := b) (by omega), nnat_nI (n := e) (by omega)]
        exact ⟨rfl, e1, e9, e10, e11, hmm⟩
      · have hk := lt_i (by omega) (by omega) d1
        refine bX10_move_159 (i1 := k) rfl (by omega) (i2 := 24 * y + e + k) (by rw [show (24 : Int32) = nI 24 from rfl, pk_mul, nI_add, nI_add]) (by omega) ?_
        rw [nI_1]
        refine ih (k + 1) _ (by omega) (by omega) ((xup_o (by decide)).trans e1) ((xup_o (by decide)).trans e9) ((xup_o (by decide)).trans e10) ?_ ?_ (hmm.up (Or.inr (Or.inr (Or.inr rfl))))
        · intro r hr
          rw [xup_o (by decide)]
          exact e12 r hr
        · rw [xup_s, e11, e12 k hk, mvd_s]
  have key1 : ∀ (q k : Nat) (im1 : XI), a < k + q → k ≤ a → im1 1 = s → im1 9 = im 9 → im1 10 = im 10 → im1 11 = im 11 → (∀ r, r < k → im1 12 r = im 11 (24 * z + b + r)) → mkS im im1 → V mX10_move (d + 2) (0, 0) 115 [some (.ref 0), some (.int (nI z)), some (.int (nI b)), some (.int (nI y)), some (.int (nI e)), some (.int (nI a)), some (.int (nI k))] [] SM im1 Q := by
    intro q
    induction q with
    | zero => intro k im1 a1 a2; omega
    | succ q ih =>
      intro k im1 a1 a2 e1 e9 e10 e11 e12 hmm
      refine bX10_move_115 (fun d1 => ?_) (fun d1 => ?_)
      · have := ge_i (by omega) (by omega) d1
        obtain rfl : k = a := by omega
        refine bX10_move_149 ?_
        exact key2 (k + 1) 0 _ (by omega) (by omega) e1 e9 e10 e12 (by rw [e11, mvd_0]) hmm
      · have hk := lt_i (by omega) (by omega) d1
        refine bX10_move_122 (i1 := 24 * z + b + k) (by rw [show (24 : Int32) = nI 24 from rfl, pk_mul, nI_add, nI_add]) (by omega) (i2 := k) rfl (by omega) ?_
        rw [nI_1]
        refine ih (k + 1) _ (by omega) (by omega) ((xup_o (by decide)).trans e1) ((xup_o (by decide)).trans e9) ((xup_o (by decide)).trans e10) ((xup_o (by decide)).trans e11) ?_ (hmm.up (Or.inl (by simp [mgL])))
        intro r hr
        by_cases hrk : r = k
        · subst hrk
          rw [xup_at, e11]
        · rw [xup_ne hrk]
          exact e12 r (by omega)
  refine bX10_move_112 ?_
  exact key1 (a + 1) 0 im (by omega) (by omega) hs rfl rfl rfl (fun r hr => absurd hr (Nat.not_lt_zero r)) mkS.rf

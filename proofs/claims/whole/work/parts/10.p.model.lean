theorem le_sub {i n : Int32} {m : Nat} (hm : m ≤ 24) (hn : ¬ n < 0) (hi : ¬ i < 0) (h : i ≤ nI m - n) : ∃ a b : Nat, n = nI a ∧ i = nI b ∧ b + a ≤ m := by
  obtain ⟨a, ha, rfl⟩ := nI_of hn
  obtain ⟨b, hb, rfl⟩ := nI_of hi
  refine ⟨a, b, rfl, rfl, ?_⟩
  rw [i_le, Int32.toInt_sub, nI_toInt hb, nI_toInt ha, nI_toInt (by omega), Int.bmod_def] at h
  split at h <;> omega
theorem okD_n {s : Nat → Int32} {nd n : Nat} (h5 : s 5 = nI nd) (hd : nd ≤ 6) (hn : n < 1000) : okD s (nI n) ↔ n < nd := by
  show (0 ≤ nI n ∧ nI n ≤ s 5 - 1) ↔ _
  rw [h5, in_n (by omega)]
  constructor
  · rintro ⟨i, hi, e⟩
    rw [(nI_eq (by omega) (by omega)).mp e]
    exact hi
  · intro h
    exact ⟨n, h, rfl⟩
theorem shutAll_up {s : Nat → Int32} {np nd : Nat} {v : Int32} (hI : Iv s np nd) : shutAll (upd s 0 v) = allT s v := by
  rw [shutAll_T, upd_at]
  exact allT_c hI.1.1 hI.1.2.1 (upd_ne (by omega)) (fun k hk => upd_ne (by omega)) (fun p hp => ⟨upd_ne (by omega), upd_ne (by omega), upd_ne (by omega), upd_ne (by omega)⟩)
theorem pX10_voice {d : Nat} {im : XI} {s : Nat → Int32} {np nd : Nat} {v w x0 : Int32} (hs : im 1 = s) (hI : Iv s np nd) : SpI mX10_voice (d + 10) [.ref 0, .int v, .int w, .int x0] SM im (fun x im' => opVoice im s v w x0 x im') := by
  refine SpI.of [some (.ref 0), some (.int v), some (.int w), some (.int x0), none, none] rfl (by decide) rfl (fun Q hQ => ?_)
  refine bX10_voice_0 (qX10_isPerson hs) ?_
  rintro _ _ ⟨rfl, rfl⟩
  have bad : ¬ okVo s v w → V mX10_voice (d + 10) (0, 0) 17 [some (.ref 0), some (.int v), some (.int w), some (.int x0), none, none] [] SM im Q := by
    intro h
    refine bX10_voice_17 (pX10_error (k := 1) rfl (by decide)) ?_
    rintro _ _ ⟨rfl, rfl⟩
    refine bX10_voice_22 ?_
    refine hQ _ _ ?_
    unfold opVoice
    rw [if_pos h]
    exact Pm.er rfl hs mk.rf (by decide)
  refine bX10_voice_5 (fun c => ?_) (fun c => ?_)
  · rw [b2i_z] at c
    exact bad (fun h => c h.1)
  rw [b2i_z, Classical.not_not] at c
  refine bX10_voice_8 pX10_in ?_
  rintro _ _ ⟨rfl, rfl⟩
  refine bX10_voice_14 (fun c2 => ?_) (fun c2 => ?_)
  rotate_left
  · rw [b2i_z] at c2; exact bad (fun h => c2 h.2)
  rw [b2i_z, Classical.not_not] at c2
  have hc1 : okVo s v w := ⟨c, c2⟩
  have h4 := hI.1.2.1
  have hnp := hI.1.1
  obtain ⟨p, hp, rfl⟩ := (in_n (n := np) (by omega)).mp (show 0 ≤ v ∧ v ≤ nI np - 1 by rw [← h4]; exact c)
  have hv : nnat (nI p) = p := nnat_nI (by omega)
  have hp6 : p < 6 := by omega
  obtain ⟨o, ho7, ho⟩ := (hI.1.2.2 p hp).1
  have hoo : nnat (s (8 + 4 * p)) = o := by rw [ho]; exact nnat_nI (by omega)
  have main : ∀ im0 : XI, Vo im0 s p → im0 0 12 = nI 0 → im0 0 15 = 0 → mkT im im0 → V mX10_voice (d + 10) (0, 0) 42 [some (.ref 0), some (.int (nI p)), some (.int w), some (.int x0), none, none] [.int (nI o)] SM im0 Q := by
    intro im0 hv0 h12 h15 hm0
    have tl : ∀ l : List Int32, l.length ≤ 8 → (trA im0 l) 1 = s ∧ mkT im (trA im0 l) ∧ (trA im0 l) 0 12 = nI l.length ∧ ∀ k, k < l.length → (trA im0 l) 8 k = l.getD k 0 := by
      intro l hl
      obtain ⟨a, _, b⟩ := trA_len (l := l) h12 (by omega)
      refine ⟨(Vo.t (l := l) hv0).1, ?_, by rw [a, Nat.zero_add], fun k hk => by have := b k hk; rw [Nat.zero_add] at this; exact this⟩
      intro q k hq
      rw [trA_o (fun h => hq (Or.inr (h.imp id (fun h => ⟨h.1, Or.inl h.2⟩)))), hm0 q k hq]
    have leaf : ∀ (l : List Int32) (x : Int32), l.length ≤ 8 → voL s p w = l → voR s p w x0 = rO x s → V mX10_voice (d + 10) (0, 0) 95 [some (.ref 0), some (.int (nI p)), some (.int w), some (.int x0), some (.int (nI o)), none] [.int x] SM (trA im0 l) Q := by
      intro l x hl hL hR
      obtain ⟨t1, t2, t3, t4⟩ := tl l hl
      refine bX10_voice_95 (fun _ => ?_) (fun c => absurd ((trA_o (by decide)).trans h15) c)
      refine bX10_voice_113 ?_
      refine bX10_voice_115 ?_
      refine hQ _ _ ?_
      unfold opVoice
      rw [if_neg (not_not_intro hc1), hv, hR, hL]
      exact ⟨rfl, t1, t2, t3, t4⟩
    refine bX10_voice_42 (fun c3 => ?_) (fun c3 => ?_)
    · refine bX10_voice_58 (fun c4 => ?_) (fun c4 => ?_)
      · refine bX10_voice_73 (fun c5 => ?_) (fun c5 => ?_)
        · refine bX10_voice_88 (pX10_partsAs ho7 hv0 hp6 ho ho7) ?_
          rintro _ _ ⟨rfl, rfl⟩
          have hL : voL s p w = ptL o o (nI p) (s (9 + 4 * p)) := by unfold voL; rw [if_neg c3, if_neg c4, if_neg c5, hoo]
          obtain ⟨t1, t2, t3, t4⟩ := tl (ptL o o (nI p) (s (9 + 4 * p))) (ptL_len _ _ _ _)
          refine bX10_voice_95 (fun c6 => ?_) (fun c6 => ?_)
          · rw [xup_at, b2i_z] at c6
            refine bX10_voice_113 ?_
            refine bX10_voice_115 ?_
            refine hQ _ _ ?_
            have hR : voR s p w x0 = rO (ptV o o (nI p) (s (9 + 4 * p)) x0) s := by unfold voR voV; rw [if_neg (fun h => c6 h.2.2.2), if_neg c3, if_neg c4, if_neg c5, hoo]
            unfold opVoice
            rw [if_neg (not_not_intro hc1), hv, hR, hL]
            refine ⟨rfl, (xup_o (by decide)).trans t1, ?_, (xup_ne (by decide)).trans t3, fun k hk => ?_⟩
            · intro q k hq
              have : ¬ (q = 0 ∧ k = 15) := fun h => hq (Or.inr (Or.inr ⟨h.1, Or.inr h.2⟩))
              simp only [xup]
              rw [if_neg this]
              exact t2 q k hq
            · rw [xup_o (by decide)]
              exact t4 k hk
          · rw [xup_at, b2i_nz] at c6
            refine bX10_voice_104 (pX10_error (k := 6) rfl (by decide)) ?_
            rintro _ _ ⟨rfl, rfl⟩
            refine bX10_voice_110 ?_
            refine bX10_voice_115 ?_
            refine hQ _ _ ?_
            have hR : voR s p w x0 = rE 6 s := by unfold voR; rw [if_pos ⟨c3, c4, c5, c6⟩]
            unfold opVoice
            rw [if_neg (not_not_intro hc1), hv, hR, hL]
            refine ⟨rfl, (xup_o (by decide)).trans ((xup_o (by decide)).trans t1), ?_, ?_, fun k hk => ?_⟩
            · intro q k hq
              have h15 : ¬ (q = 0 ∧ k = 15) := fun h => hq (Or.inr (Or.inr ⟨h.1, Or.inr h.2⟩))
              show _ = xup im 4 6 (im 4 6 + 1) q k
              have e46 : (xup (trA im0 (ptL o o (nI p) (s (9 + 4 * p)))) 0 15 (b2i (s (9 + 4 * p) - nI p = 0))) 4 6 = im 4 6 := by
                rw [xup_o (by decide)]
                exact t2 4 6 (by simp [mgT, mgL])
              rw [e46]
              simp only [xup]
              by_cases h46 : q = 4 ∧ k = 6
              · rw [if_pos h46, if_pos h46]
              · rw [if_neg h46, if_neg h46, if_neg h15]
                exact t2 q k hq
            · rw [xup_o (by decide)]
              exact (xup_ne (by decide)).trans t3
            · rw [xup_o (by decide), xup_o (by decide)]
              exact t4 k hk
        · refine bX10_voice_78 (pX10_looksAs ho7 hv0 hp6 ho ho7) ?_
          rintro _ _ ⟨rfl, rfl⟩
          refine bX10_voice_85 ?_
          exact leaf _ _ (lkL_len _ _) (by unfold voL; rw [if_neg c3, if_neg c4, if_pos c5, hoo]) (by unfold voR voV; rw [if_neg (fun h => h.2.2.1 c5), if_neg c3, if_neg c4, if_pos c5, hoo])
      · refine bX10_voice_63 (pX10_movesAs ho7 hv0 hp6 ho ho7) ?_
        rintro _ _ ⟨rfl, rfl⟩
        refine bX10_voice_70 ?_
        exact leaf _ _ (by have := mvL_len o o; omega) (by unfold voL; rw [if_neg c3, if_pos c4, hoo]) (by unfold voR voV; rw [if_neg (fun h => h.2.1 c4), if_neg c3, if_pos c4, hoo])
    · refine bX10_voice_48 (pX10_blinksAs ho7 hv0.2.2) ?_
      rw [hv0.2.1]
      rintro _ _ ⟨rfl, rfl⟩
      refine bX10_voice_55 ?_
      exact leaf _ _ (by have := blL_len o; omega) (by unfold voL; rw [if_pos c3, hoo]) (by unfold voR voV; rw [if_neg (fun h => h.1 c3), if_pos c3, hoo])
  have v0 : Vo (xup (xup (xup im 0 12 0) 0 14 (nI p)) 0 15 0) s p := Vo.p ⟨by rw [xup_o (by decide), xup_o (by decide)]; exact hs, xup_at, 0, by omega, by rw [xup_ne (by decide), xup_at]; rfl⟩
  refine bX10_voice_23 (pX10_kindNow v0 hp6) ?_
  rintro _ _ ⟨rfl, rfl⟩
  rw [ho]
  refine main _ v0 ?_ xup_at ?_
  · rw [xup_ne (by decide), xup_ne (by decide), xup_at]; rfl
  · intro q k hq
    simp only [xup]
    rw [if_neg (fun h => hq (Or.inr (Or.inr ⟨h.1, Or.inr h.2⟩))), if_neg (fun h => hq (Or.inl (by simp [mgL, h.1, h.2]))), if_neg (fun h => hq (Or.inr (Or.inr ⟨h.1, Or.inl h.2⟩)))]
theorem pX10_body {d : Nat} {im : XI} {s : Nat → Int32} {v : Int32} (hs : im 1 = s) (h : hT im) : SpI mX10_body (d + 1) [.ref 0, .int v] SM im (fun x im' => Pm im (opBody (im 0 12) (im 8) s v) x im') := by
  refine SpI.of [some (.ref 0), some (.int v)] rfl (by decide) rfl (fun Q hQ => ?_)
  obtain ⟨n, hn, hT⟩ := h
  refine bX10_body_0 pX10_in ?_
  rintro _ _ ⟨rfl, rfl⟩
  refine bX10_body_11 (fun c => ?_) (fun c => ?_)
  · rw [b2i_z] at c
    refine bX10_body_23 (pX10_error (k := 2) rfl (by decide)) ?_
    rintro _ _ ⟨rfl, rfl⟩
    refine bX10_body_28 ?_
    refine hQ _ _ ?_
    unfold opBody
    rw [if_pos c]
    exact Pm.er rfl hs mk.rf (by decide)
  · rw [b2i_z, Classical.not_not] at c
    obtain ⟨k, hk, rfl⟩ := (in_n (n := n) (by omega)).mp (show 0 ≤ v ∧ v ≤ nI n - 1 by rw [← hT]; exact c)
    refine bX10_body_14 rfl (by omega) ?_
    refine bX10_body_28 ?_
    refine hQ _ _ ?_
    unfold opBody
    rw [if_neg (not_not_intro c), nnat_nI (by omega)]
    exact Pm.ok rfl hs mk.rf
theorem pX10_sheet {d : Nat} {im : XI} {s : Nat → Int32} {z0 t n : Int32} (hs : im 1 = s) : SpI mX10_sheet (d + 2) [.ref 0, .int z0, .int t, .int n] SM im (fun x im' => opSheet im s z0 t n x im') := by
  refine SpI.of [some (.ref 0), some (.int z0), some (.int t), some (.int n), none] rfl (by decide) rfl (fun Q hQ => ?_)
  refine bX10_sheet_0 pX10_isSheet ?_
  rintro _ _ ⟨rfl, rfl⟩
  have bad : ¬ (okSh z0 ∧ okBits t) → V mX10_sheet (d + 2) (0, 0) 29 [some (.ref 0), some (.int z0), some (.int t), some (.int n), none] [] SM im Q := by
    intro h
    refine bX10_sheet_29 (pX10_error (k := 1) rfl (by decide)) ?_
    rintro _ _ ⟨rfl, rfl⟩
    refine bX10_sheet_34 ?_
    refine hQ _ _ ?_
    unfold opSheet
    rw [if_pos h]
    exact Pm.er rfl hs mk.rf (by decide)
  refine bX10_sheet_4 (fun c => ?_) (fun c => ?_)
  · rw [b2i_z] at c
    exact bad (fun h => c h.1)
  rw [b2i_z, Classical.not_not] at c
  have go : okBits t → V mX10_sheet (d + 2) (0, 0) 35 [some (.ref 0), some (.int z0), some (.int t), some (.int n), none] [] SM im Q := by
    intro hb
    have hc : okSh z0 ∧ okBits t := ⟨c, hb⟩
    obtain ⟨z, hz3, rfl⟩ := (in_c (x := z0) (n := 3) rfl (by decide)).mp c
    have hz4 : z < 4 := by omega
    have hzn : nnat (nI z) = z := nnat_nI (by omega)
    have go2 : ¬ (¬ t = 0 ∧ n < 0) → V mX10_sheet (d + 2) (0, 0) 49 [some (.ref 0), some (.int (nI z)), some (.int t), some (.int n), none] [] SM im Q := by
      intro h1
      have go3 : ¬ (¬ t = 0 ∧ 24 < n) → V mX10_sheet (d + 2) (0, 0) 65 [some (.ref 0), some (.int (nI z)), some (.int t), some (.int n), none] [] SM im Q := by
        intro h2
        have key : ∀ (q k : Nat) (im1 : XI), 24 < k + q → k ≤ 24 → im1 1 = s → im1 9 = upd (im 9) z t → im1 10 = upd (im 10) z (if t = 0 then 0 else n) → im1 11 = clr (im 11) z k → mkS im im1 → V mX10_sheet (d + 2) (0, 0) 90 [some (.ref 0), some (.int (nI z)), some (.int t), some (.int n), some (.int (nI k))] [] SM im1 Q := by
          intro q
          induction q with
          | zero => intro k im1 a1 a2; omega
          | succ q ih =>
            intro k im1 a1 a2 e1 e9 e10 e11 hm
            refine bX10_sheet_90 (fun c5 => ?_) (fun c5 => ?_)
            · have : k = 24 := by
                have := ge_i (a := 24) (by omega) (by omega) c5
                omega
              subst this
              refine bX10_sheet_116 ?_
              refine hQ _ _ ?_
              unfold opSheet
              rw [if_neg (not_not_intro hc), if_neg h1, if_neg h2, hzn]
              exact ⟨rfl, e1, e9, e10, e11, hm⟩
            · have hk := lt_i (a := 24) (by omega) (by omega) c5
              refine bX10_sheet_97 (i1 := 24 * z + k) (by rw [show (24 : Int32) = nI 24 from rfl, pk_mul, nI_add]) (by omega) ?_
              rw [nI_1]
              refine ih (k + 1) _ (by omega) (by omega) ((xup_o (by decide)).trans e1) ((xup_o (by decide)).trans e9) ((xup_o (by decide)).trans e10) ?_ (hm.up (Or.inr (Or.inr (Or.inr rfl))))
              rw [xup_s, e11, clr_s]
        have e86 : ∀ v, v = (if t = 0 then 0 else n) → V mX10_sheet (d + 2) (0, 0) 86 [some (.ref 0), some (.int (nI z)), some (.int t), some (.int n), none] [.int v, .int (nI z), .ref 10] SM (xup im 9 z t) Q := by
          intro v hv
          refine bX10_sheet_86 ⟨rfl, rfl⟩ rfl (by omega) ?_
          refine key 25 0 _ (by omega) (by omega) ?_ ?_ ?_ ?_ ((mkS.rf.up (Or.inr (Or.inl rfl))).up (Or.inr (Or.inr (Or.inl rfl))))
          · rw [xup_o (by decide), xup_o (by decide)]; exact hs
          · rw [xup_o (by decide), xup_s]
          · rw [xup_s, xup_o (by decide), hv]
          · rw [xup_o (by decide), xup_o (by decide), clr_0]
        refine bX10_sheet_65 rfl (by omega) (fun c5 => ?_) (fun c5 => ?_)
        · exact bX10_sheet_85 (e86 _ (if_neg c5).symm)
        · exact bX10_sheet_81 (e86 _ (if_pos c5).symm)
      refine bX10_sheet_49 (fun c5 => go3 (fun h => h.1 c5)) (fun c5 => ?_)
      refine bX10_sheet_53 (fun c6 => go3 (fun h => absurd c6 (by rw [i_le]; have := h.2; rw [i_lt] at this; omega))) (fun c6 => ?_)
      have c7 : (24 : Int32) < n := by rw [i_lt]; rw [i_le] at c6; omega
      refine bX10_sheet_59 (pX10_error (k := 1) rfl (by decide)) ?_
      rintro _ _ ⟨rfl, rfl⟩
      refine bX10_sheet_64 ?_
      refine hQ _ _ ?_
      unfold opSheet
      rw [if_neg (not_not_intro hc), if_neg h1, if_pos ⟨c5, c7⟩]
      exact Pm.er rfl hs mk.rf (by decide)
    refine bX10_sheet_35 (fun c5 => go2 (fun h => h.1 c5)) (fun c5 => ?_)
    refine bX10_sheet_39 (fun c6 => go2 (fun h => absurd c6 (by rw [i_le]; have := h.2; rw [i_lt] at this; omega))) (fun c6 => ?_)
    have c7 : n < (0 : Int32) := by rw [i_lt]; rw [i_le] at c6; omega
    refine bX10_sheet_43 (pX10_error (k := 3) rfl (by decide)) ?_
    rintro _ _ ⟨rfl, rfl⟩
    refine bX10_sheet_48 ?_
    refine hQ _ _ ?_
    unfold opSheet
    rw [if_neg (not_not_intro hc), if_pos ⟨c5, c7⟩]
    exact Pm.er rfl hs mk.rf (by decide)
  refine bX10_sheet_7 (fun c1 => go (Or.inl c1)) (fun c1 => ?_)
  refine bX10_sheet_11 (fun c2 => go (Or.inr (Or.inl c2))) (fun c2 => ?_)
  refine bX10_sheet_17 (fun c3 => go (Or.inr (Or.inr (Or.inl c3)))) (fun c3 => ?_)
  refine bX10_sheet_23 (fun c4 => go (Or.inr (Or.inr (Or.inr c4)))) (fun c4 => ?_)
  exact bad (fun h => by rcases h.2 with h | h | h | h <;> contradiction)
theorem pX10_put {d : Nat} {im : XI} {s : Nat → Int32} {z0 i v : Int32} (hs : im 1 = s) (hsz : ∀ z, z < 4 → ∃ m : Nat, m ≤ 24 ∧ im 10 z = nI m) : SpI mX10_put (d + 2) [.ref 0, .int z0, .int i, .int v] SM im (fun x im' => opPut im s z0 i v x im') := by
  refine SpI.of [some (.ref 0), some (.int z0), some (.int i), some (.int v), none] rfl (by decide) rfl (fun Q hQ => ?_)
  refine bX10_put_0 pX10_isSheet ?_
  rintro _ _ ⟨rfl, rfl⟩
  refine bX10_put_4 (fun c => ?_) (fun c => ?_)
  rotate_left
  · skip
    rw [b2i_z] at c
    refine bX10_put_7 (pX10_error (k := 1) rfl (by decide)) ?_
    rintro _ _ ⟨rfl, rfl⟩
    refine bX10_put_12 ?_
    refine hQ _ _ ?_
    unfold opPut
    rw [if_pos c]
    exact Pm.er rfl hs mk.rf (by decide)
  rw [b2i_z, Classical.not_not] at c
  obtain ⟨z, hz3, rfl⟩ := (in_c (x := z0) (n := 3) rfl (by decide)).mp c
  have hz4 : z < 4 := by omega
  have hzn : nnat (nI z) = z := nnat_nI (by omega)
  obtain ⟨m, hm, hz⟩ := hsz z hz4
  refine bX10_put_13 rfl hz4 (fun c2 => ?_) (fun c2 => ?_)
  rotate_left
  · skip
    refine bX10_put_22 (pX10_error (k := 2) rfl (by decide)) ?_
    rintro _ _ ⟨rfl, rfl⟩
    refine bX10_put_27 ?_
    refine hQ _ _ ?_
    unfold opPut
    rw [if_neg (not_not_intro c), hzn, if_pos c2]
    exact Pm.er rfl hs mk.rf (by decide)
  refine bX10_put_28 rfl hz4 pX10_in ?_
  rintro _ _ ⟨rfl, rfl⟩
  refine bX10_put_41 (fun c3 => ?_) (fun c3 => ?_)
  rotate_left
  · skip
    rw [b2i_z] at c3
    refine bX10_put_44 (pX10_error (k := 1) rfl (by decide)) ?_
    rintro _ _ ⟨rfl, rfl⟩
    refine bX10_put_49 ?_
    refine hQ _ _ ?_
    unfold opPut
    rw [if_neg (not_not_intro c), hzn, if_neg c2, if_pos c3]
    exact Pm.er rfl hs mk.rf (by decide)
  rw [b2i_z, Classical.not_not] at c3
  obtain ⟨k, hk, rfl⟩ := (in_n (n := m) (by omega)).mp (show 0 ≤ i ∧ i ≤ nI m - 1 by rw [← hz]; exact c3)
  refine bX10_put_50 rfl hz4 (i2 := 24 * z + k) (by rw [show (24 : Int32) = nI 24 from rfl, pk_mul, nI_add]) (by omega) ?_
  refine hQ _ _ ?_
  unfold opPut
  rw [if_neg (not_not_intro c), hzn, if_neg c2, if_neg (not_not_intro c3), nnat_nI (n := k) (by omega)]
  exact ⟨rfl, (xup_o (by decide)).trans hs, xup_o (by decide), xup_o (by decide), xup_s, mkS.rf.up (Or.inr (Or.inr (Or.inr rfl)))⟩

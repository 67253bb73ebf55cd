theorem pX10_one {s : Nat → Int32} {n u f : Nat} (h2 : s 2 = nI n) (hn : n ≤ 60) (hu : u < 2) (hC5 : PC mX10_one s n u f 5) (hC0 : PC mX10_whole s n u f 0) : PC mX10_one s n u (f + 1) 5 := by
  intro op a len D im r ho ha hl hD hP hf hr
  have hw : wgt 5 = 1 := rfl
  rw [hw] at hf
  rw [prs_5] at hr
  obtain ⟨D, rfl⟩ : ∃ E, D = E + 1 := ⟨D - 1, by omega⟩
  refine SpI.of [some (.ref 0), none, none, none] rfl (by decide) rfl (fun Q hQ => ?_)
  refine bX10_one_0 (pX10_look hP h2 hn ha) ?_
  rintro _ _ ⟨rfl, rfl⟩
  refine bX10_one_4 (pX10_isName hP.2.2.2.2 hu) ?_
  rintro _ _ ⟨rfl, rfl⟩
  refine bX10_one_10 (fun c1 => ?_) (fun c1 => ?_)
  rotate_left
  · rw [b2i_nz] at c1
    rw [if_pos c1] at hr
    have e := Option.some.inj hr
    have hlt : a < n := by
      refine lkA_lt (tp := (fun k => s (300 + k))) (fun h => ?_)
      rw [h] at c1
      have e : ∀ j, ¬ (-1 : Int32) = nameC u j := fun j h => by
        obtain ⟨h1, h2⟩ := nameC_lt u j
        rw [← h] at h1
        exact nI_nm1 (n := nnat (nameC u j)) (by omega) (by rw [← h]; exact h1.symm)
      rcases c1 with c | c | c <;> exact e _ c
    refine bX10_one_13 (pX10_step1 hP.up (by omega)) ?_
    rintro im3 ⟨hP3, h5, hm⟩
    refine bX10_one_29 ?_
    rw [← e] at hQ
    rw [xup_o (by decide)] at h5
    exact hQ _ _ ⟨(mg0 mkL.rf (by omega)).tr hm, rfl, hP3, h5⟩
  rw [b2i_z] at c1
  rw [if_neg c1] at hr
  refine bX10_one_31 pX10_in ?_
  rintro _ _ ⟨rfl, rfl⟩
  refine bX10_one_39 (fun c2 => ?_) (fun c2 => ?_)
  rotate_left
  · rw [b2i_nz] at c2
    have c2 : isDg (lkA (fun k => s (300 + k)) n a) := c2
    rw [if_pos c2] at hr
    have e := Option.some.inj hr
    rw [← e] at hQ
    have hdg := dgs_4 c2
    have fin : ∀ (im1 : XI) (v : Int32) (k : Int32), PsM s u (dgs (fun k => s (300 + k)) n 4 a 0).1 op len im1 → im1 5 = im 5 → mkL im im1 → v = (dgs (fun k => s (300 + k)) n 4 a 0).2 → V mX10_one (D + 1) (0, 0) 94 [some (.ref 0), some (.int (lkA (fun k => s (300 + k)) n a)), some (.int v), some (.int k)] [] SM im1 Q := by
      intro im1 v k hP1 h5 hm1 hv
      refine bX10_one_94 (pX10_step1 hP1 (by omega)) ?_
      rintro im3 ⟨hP3, h53, hm3⟩
      refine bX10_one_100 ?_
      rw [h5, hv] at h53
      exact hQ _ _ ⟨hm1.tr hm3, rfl, hP3, h53⟩
    have key : ∀ (q k b : Nat) (v : Int32) (im1 : XI), q + k = 4 → b ≤ n → PsM s u b op len im1 → im1 5 = im 5 → mkL im im1 → dgs (fun k => s (300 + k)) n q b v = dgs (fun k => s (300 + k)) n 4 a 0 → V mX10_one (D + 1) (0, 0) 46 [some (.ref 0), some (.int (lkA (fun k => s (300 + k)) n a)), some (.int v), some (.int (nI k))] [] SM im1 Q := by
      intro q
      induction q with
      | zero =>
        intro k b v im1 g1 g2 hP1 h5 hm1 hd
        have hd' : (b, v) = dgs (fun k => s (300 + k)) n 4 a 0 := hd
        refine bX10_one_46 (fun _ => ?_) (fun d1 => absurd ((nI_leI (a := 4) (b := k) (by omega) (by omega)).mpr (by omega)) d1)
        exact fin im1 v _ (by rw [← hd']; exact hP1) h5 hm1 (by rw [← hd'])
      | succ q ih =>
        intro k b v im1 g1 g2 hP1 h5 hm1 hd
        refine bX10_one_46 (fun d1 => absurd (ge_i (a := 4) (by omega) (by omega) d1) (by omega)) (fun _ => ?_)
        refine bX10_one_51 (pX10_look hP1 h2 hn g2) ?_
        rintro _ _ ⟨rfl, rfl⟩
        refine bX10_one_55 pX10_in ?_
        rintro _ _ ⟨rfl, rfl⟩
        refine bX10_one_62 (fun d2 => ?_) (fun d2 => ?_)
        · rw [b2i_z] at d2
          rw [dgs_2 d2] at hd
          exact fin im1 v _ (by rw [← hd]; exact hP1) h5 hm1 (by rw [← hd])
        · rw [b2i_nz] at d2
          have d2 : isDg (lkA (fun k => s (300 + k)) n b) := d2
          have hlt : b < n := lkA_lt (tp := (fun k => s (300 + k))) (fun h => by rw [h] at d2; exact absurd d2.1 (by decide))
          rw [dgs_1 d2] at hd
          refine bX10_one_65 (pX10_look hP1 h2 hn g2) ?_
          rintro _ _ ⟨rfl, rfl⟩
          refine bX10_one_73 ?_
          rw [nI_1]
          exact ih (k + 1) (b + 1) _ _ (by omega) hlt hP1.up ((xup_o (by decide)).trans h5) (mg0 hm1 (by omega)) hd
    refine bX10_one_42 ?_
    exact key 4 0 a 0 im rfl ha hP rfl mkL.rf rfl
  rw [b2i_z] at c2
  have c2 : ¬ isDg (lkA (fun k => s (300 + k)) n a) := c2
  rw [if_neg c2] at hr
  refine bX10_one_102 (fun c3 => ?_) (fun c3 => ?_)
  rotate_left
  · rw [if_pos c3] at hr
    have hlt : a < n := lkA_lt (tp := (fun k => s (300 + k))) (fun h => by rw [h] at c3; exact absurd c3 (by decide))
    refine bX10_one_108 (pX10_opens hP ho) ?_
    rintro x im1 (⟨rfl, rfl, rfl⟩ | ⟨h5, rfl, hP1, h55, hm1⟩)
    · rw [if_pos rfl] at hr
      have e := Option.some.inj hr
      refine bX10_one_112 (fun _ => ?_) (fun c => absurd rfl c)
      refine bX10_one_122 ?_
      rw [← e] at hQ
      exact hQ _ _ ⟨mkL.rf, rfl, hP.1, hP.2.1⟩
    · rw [if_neg (by omega)] at hr
      refine bX10_one_112 (fun c => absurd c (by decide)) (fun _ => ?_)
      obtain ⟨⟨b, o⟩, hr1, z1, z2, z3⟩ := prs_ok (fun k => s (300 + k)) n u f 5 (op + 1) (a + 1) (by omega) hlt (by rw [hw]; omega)
      rw [hr1] at hr
      simp only at z1 z2 z3
      refine bX10_one_115 (hC5 (op + 1) (a + 1) len D im1 (b, o) (by omega) hlt (by omega) (by omega) hP1 (by rw [hw]; omega) hr1) ?_
      rintro x im2 ⟨hm2, hx⟩
      cases o with
      | none =>
        obtain ⟨rfl, e1, e5⟩ := hx
        have e := Option.some.inj hr
        refine bX10_one_119 (fun c => absurd rfl c) (fun _ => ?_)
        refine bX10_one_122 ?_
        rw [← e] at hQ
        exact hQ _ _ ⟨hm1.tr hm2, rfl, e1, e5⟩
      | some l =>
        obtain ⟨rfl, hP2, hw2⟩ := hx
        obtain ⟨q1, q2, _⟩ := z3 l rfl
        have e := Option.some.inj hr
        refine bX10_one_119 (fun _ => ?_) (fun c => absurd c (by decide))
        have hP2' : PsM s u b op (len + l.length) (xup im2 0 6 (im2 0 6 - 1)) := by
          obtain ⟨a1, a2, a3, a4, a5⟩ := hP2
          exact ⟨(xup_o (by decide)).trans a1, (xup_ne (by decide)).trans a2, by rw [xup_at, a3, nI_pred], (xup_ne (by decide)).trans a4, (xup_ne (by decide)).trans a5⟩
        refine bX10_one_124 (pX10_step1 hP2' (by omega)) ?_
        rintro im3 ⟨hP3, h53, hm3⟩
        refine bX10_one_140 ?_
        rw [← e] at hQ
        rw [xup_o (by decide), hw2, h55] at h53
        refine hQ _ _ ⟨(mg0 (hm1.tr hm2) (by omega)).tr hm3, rfl, ?_, ?_⟩
        · rw [List.length_append]; exact hP3
        · show im3 5 = wrS (im 5) len (l ++ [(2, 0)])
          rw [wrS_app, h53]; rfl
  rw [if_neg c3] at hr
  refine bX10_one_142 (fun c4 => ?_) (fun c4 => ?_)
  · rw [if_neg c4] at hr
    have e := Option.some.inj hr
    refine bX10_one_171 ?_
    rw [← e] at hQ
    exact hQ _ _ ⟨mkL.rf, rfl, hP.1, hP.2.1⟩
  rw [if_pos c4] at hr
  have hlt : a < n := lkA_lt (tp := (fun k => s (300 + k))) (fun h => by rw [h] at c4; exact absurd c4 (by decide))
  refine bX10_one_148 (pX10_opens hP ho) ?_
  rintro x im1 (⟨rfl, rfl, rfl⟩ | ⟨h5, rfl, hP1, h55, hm1⟩)
  · rw [if_pos rfl] at hr
    have e := Option.some.inj hr
    refine bX10_one_152 (fun _ => ?_) (fun c => absurd rfl c)
    refine bX10_one_171 ?_
    rw [← e] at hQ
    exact hQ _ _ ⟨mkL.rf, rfl, hP.1, hP.2.1⟩
  · rw [if_neg (by omega)] at hr
    refine bX10_one_152 (fun c => absurd c (by decide)) (fun _ => ?_)
    have hw0 : wgt 0 = 6 := rfl
    obtain ⟨⟨b, o⟩, hr1, z1, z2, z3⟩ := prs_ok (fun k => s (300 + k)) n u f 0 (op + 1) (a + 1) (by omega) hlt (by rw [hw0]; omega)
    rw [hr1] at hr
    simp only at z1 z2 z3
    refine bX10_one_155 (hC0 (op + 1) (a + 1) len D im1 (b, o) (by omega) hlt (by omega) (by omega) hP1 (by rw [hw0]; omega) hr1) ?_
    rintro x im2 ⟨hm2, hx⟩
    cases o with
    | none =>
      obtain ⟨rfl, e1, e5⟩ := hx
      have e := Option.some.inj hr
      refine bX10_one_159 (fun _ => ?_) (fun c => absurd rfl c)
      refine bX10_one_171 ?_
      rw [← e] at hQ
      exact hQ _ _ ⟨hm1.tr hm2, rfl, e1, e5⟩
    | some l =>
      obtain ⟨rfl, hP2, hw2⟩ := hx
      obtain ⟨q1, q2, _⟩ := z3 l rfl
      refine bX10_one_159 (fun c => absurd c (by decide)) (fun _ => ?_)
      refine bX10_one_162 (pX10_look hP2 h2 hn z2) ?_
      rintro _ _ ⟨rfl, rfl⟩
      have hr2 : (if lkA (fun k => s (300 + k)) n b = 41 then some (b + 1, some l) else some (b, none)) = some r := hr
      refine bX10_one_166 (fun c6 => ?_) (fun c6 => ?_)
      · rw [if_pos c6] at hr2
        have e := Option.some.inj hr2
        refine bX10_one_173 ?_
        rw [← e] at hQ
        obtain ⟨a1, a2, a3, a4, a5⟩ := hP2
        refine hQ _ _ ⟨mg0 (mg0 (hm1.tr hm2) (by omega)) (by omega), rfl, ⟨?_, ?_, ?_, ?_, ?_⟩, ?_⟩
        · rw [xup_o (by decide), xup_o (by decide)]; exact a1
        · rw [xup_ne (by decide), xup_at, a2, nI_1]
        · rw [xup_at, xup_ne (by decide), a3, nI_pred]
        · rw [xup_ne (by decide), xup_ne (by decide)]; exact a4
        · rw [xup_ne (by decide), xup_ne (by decide)]; exact a5
        · rw [xup_o (by decide), xup_o (by decide), hw2, h55]
      · rw [if_neg c6] at hr2
        have e := Option.some.inj hr2
        refine bX10_one_171 ?_
        rw [← e] at hQ
        exact hQ _ _ ⟨hm1.tr hm2, rfl, hP2.1, hP2.2.1⟩
theorem PC_0 (mt : XM) (s : Nat → Int32) (n u m : Nat) : PC mt s n u 0 m := fun op a len D im r _ _ _ _ _ hf _ => absurd hf (by omega)
theorem par_all {s : Nat → Int32} {n u : Nat} (h2 : s 2 = nI n) (hn : n ≤ 60) (hu : u < 2) : ∀ F f : Nat, f ≤ F → PC mX10_one s n u f 5 ∧ PC mX10_product s n u f 4 ∧ PC mX10_sum s n u f 3 ∧ PC mX10_compared s n u f 2 ∧ PC mX10_both s n u f 1 ∧ PC mX10_whole s n u f 0 := by
  intro F
  induction F with
  | zero =>
    intro f hf
    obtain rfl : f = 0 := by omega
    exact ⟨PC_0 _ _ _ _ _, PC_0 _ _ _ _ _, PC_0 _ _ _ _ _, PC_0 _ _ _ _ _, PC_0 _ _ _ _ _, PC_0 _ _ _ _ _⟩
  | succ F ih =>
    intro f hf
    rcases Nat.lt_or_ge f (F + 1) with h | h
    · exact ih f (by omega)
    · obtain rfl : f = F + 1 := by omega
      exact ⟨pX10_one h2 hn hu (ih F (Nat.le_refl F)).1 (ih F (Nat.le_refl F)).2.2.2.2.2, pX10_product h2 hn (fun g hg => (ih g hg).1), pX10_sum h2 hn (fun g hg => (ih g hg).2.1), pX10_compared h2 hn (fun g hg => (ih g hg).2.2.1), pX10_both h2 hn (fun g hg => (ih g hg).2.2.2.1), pX10_whole h2 hn (fun g hg => (ih g hg).2.2.2.2.1)⟩
def cpS (s : Nat → Int32) (u : Nat) (l : List PStp) (j : Nat) : Nat → Int32 := fun k => if k = 50 + 125 * u then nI l.length else if 50 + 125 * u < k ∧ k < 51 + 125 * u + j then clS l (k - (51 + 125 * u)) else if k = 2 then 0 else s k
theorem cpS_s (s : Nat → Int32) (u : Nat) (l : List PStp) (j : Nat) : upd (cpS s u l j) (51 + 125 * u + j) (clS l j) = cpS s u l (j + 1) := by
  funext k
  unfold cpS upd
  by_cases h : k = 51 + 125 * u + j
  · rw [if_pos h, if_neg (by omega), if_pos (by omega), show k - (51 + 125 * u) = j by omega]
  · rw [if_neg h]
    dsimp only
    by_cases h0 : k = 50 + 125 * u
    · rw [if_pos h0, if_pos h0]
    · rw [if_neg h0, if_neg h0]
      by_cases h2 : 50 + 125 * u < k ∧ k < 51 + 125 * u + j
      · rw [if_pos h2, if_pos (by omega)]
      · rw [if_neg h2, if_neg (c := 50 + 125 * u < k ∧ k < 51 + 125 * u + (j + 1)) (by omega)]
theorem cpS_0 (s : Nat → Int32) (u : Nat) (l : List PStp) : cpS s u l 0 = upd (upd s 2 0) (50 + 125 * u) (nI l.length) := by
  funext k
  unfold cpS upd
  by_cases h0 : k = 50 + 125 * u
  · rw [if_pos h0, if_pos h0]
  · rw [if_neg h0, if_neg h0, if_neg (by omega)]
theorem pX10_text {d : Nat} {im : XI} {s : Nat → Int32} {np nd : Nat} {v : Int32} (hs : im 1 = s) (hI : Iv s np nd) : SpI mX10_text (d + 37) [.ref 0, .int v] SM im (fun x im' => Pm im (opText s v) x im') := by
  refine SpI.of [some (.ref 0), some (.int v), none, none, none] rfl (by decide) rfl (fun Q hQ => ?_)
  obtain ⟨n, hn, h2⟩ := hI.2.2.1
  refine bX10_text_0 pX10_in ?_
  rintro _ _ ⟨rfl, rfl⟩
  refine bX10_text_6 (fun c => ?_) (fun c => ?_)
  rotate_left
  · rw [b2i_z] at c
    refine bX10_text_9 (pX10_error (k := 1) rfl (by decide)) ?_
    rintro _ _ ⟨rfl, rfl⟩
    refine bX10_text_14 ?_
    refine hQ _ _ ?_
    unfold opText
    rw [if_pos c]
    exact Pm.er rfl hs mk.rf (by decide)
  rw [b2i_z, Classical.not_not] at c
  obtain ⟨u, hu1, rfl⟩ := (in_c (x := v) (n := 1) rfl (by decide)).mp c
  have hu : u < 2 := by omega
  have hun : nnat (nI u) = u := nnat_nI (by omega)
  obtain ⟨hr, k1, k2, k3⟩ := prT_ok (s := s) (u := u) h2 hn
  have hPs : PsM s u 0 0 0 (xup (xup (xup (xup im 0 8 (nI u)) 0 5 0) 0 6 0) 0 7 0) := by
    refine ⟨?_, ?_, ?_, ?_, ?_⟩
    · rw [xup_o (by decide), xup_o (by decide), xup_o (by decide), xup_o (by decide)]; exact hs
    · rw [xup_ne (by decide), xup_ne (by decide), xup_at]; rfl
    · rw [xup_ne (by decide), xup_at]; rfl
    · rw [xup_at]; rfl
    · rw [xup_ne (by decide), xup_ne (by decide), xup_ne (by decide), xup_at]
  have hm0 : mkL im (xup (xup (xup (xup im 0 8 (nI u)) 0 5 0) 0 6 0) 0 7 0) := mg0 (mg0 (mg0 (mg0 mkL.rf (by omega)) (by omega)) (by omega)) (by omega)
  obtain ⟨r, her⟩ : ∃ r, prT s u = r := ⟨_, rfl⟩
  rw [her] at hr k1 k2 k3
  obtain ⟨b, o⟩ := r
  simp only at k1 k2 k3
  refine bX10_text_15 ((par_all h2 hn hu 1000 1000 (Nat.le_refl _)).2.2.2.2.2 0 0 0 (d + 36) _ (b, o) (by omega) (by omega) (by omega) (by omega) hPs (by show 12 * (n - 0) + 6 < 1000; omega) hr) ?_
  rintro x im1 ⟨hm1, hx⟩
  have hm2 : mkL im im1 := hm0.tr hm1
  have bad : ∀ im1 : XI, mkL im im1 → im1 1 = s → im1 0 5 = nI b → opText s (nI u) = rO (-10 - nI b) (upd s 2 0) → V mX10_text (d + 37) (0, 0) 59 [some (.ref 0), some (.int (nI u)), none, none, none] [] SM im1 Q := by
    intro im1 hm2 e1 e5 hop
    refine bX10_text_59 ?_
    refine bX10_text_60 (fun c => absurd rfl c) (fun _ => ?_)
    refine bX10_text_72 ?_
    refine hQ _ _ ?_
    rw [hop]
    exact Pm.okL (by rw [xup_o (by decide), e5]) (by rw [xup_s, e1]) (hm2.up (by simp [mgL]))
  cases o with
  | none =>
    obtain ⟨rfl, e1, e5⟩ := hx
    refine bX10_text_39 (fun _ => ?_) (fun c => absurd rfl c)
    exact bad im1 hm2 e1 e5 (by unfold opText; rw [if_neg (not_not_intro c), hun, her])
  | some l =>
    obtain ⟨rfl, hP1, hw1⟩ := hx
    obtain ⟨q1, q2, _⟩ := k3 l rfl
    rw [Nat.zero_add] at hP1
    refine bX10_text_39 (fun c => absurd c (by decide)) (fun _ => ?_)
    refine bX10_text_42 (fun c4 => ?_) (fun c4 => ?_)
    · rw [hP1.1, hP1.2.1] at c4
      exact bad im1 hm2 hP1.1 hP1.2.1 (by unfold opText; rw [if_neg (not_not_intro c), hun, her]; exact if_neg c4)
    · rw [hP1.1, hP1.2.1] at c4
      have hop : opText s (nI u) = rO 1 (textS s u l) := by unfold opText; rw [if_neg (not_not_intro c), hun, her]; exact if_pos c4
      refine bX10_text_55 ?_
      refine bX10_text_60 (fun _ => ?_) (fun c => absurd c (by decide))
      have e50 : (50 : Int32) + 125 * nI u = nI (50 + 125 * u) := by rw [show (125 : Int32) = nI 125 from rfl, pk_mul, show (50 : Int32) = nI 50 from rfl, nI_add]
      refine bX10_text_80 (i1 := 50 + 125 * u) e50 (by omega) ?_
      rw [e50]
      have key : ∀ (q j : Nat) (im3 : XI), 2 * l.length < j + q → j ≤ 2 * l.length → im3 1 = cpS s u l j → im3 5 = wrS ((xup (xup (xup (xup im 0 8 (nI u)) 0 5 0) 0 6 0) 0 7 0) 5) 0 l → im3 0 7 = nI l.length → mkL im im3 → V mX10_text (d + 37) (0, 0) 101 [some (.ref 0), some (.int (nI u)), some (.int 1), some (.int (nI (50 + 125 * u))), some (.int (nI j))] [] SM im3 Q := by
        intro q
        induction q with
        | zero => intro j im3 a1 a2; omega
        | succ q ih =>
          intro j im3 a1 a2 e1 e5 e7 hm3
          have e2 : (2 : Int32) * im3 0 7 = nI (2 * l.length) := by rw [e7, show (2 : Int32) = nI 2 from rfl, pk_mul]
          refine bX10_text_101 (fun c5 => ?_) (fun c5 => ?_)
          · rw [e2] at c5
            have := ge_i (by omega) (by omega) c5
            obtain rfl : j = 2 * l.length := by omega
            refine bX10_text_136 ?_
            refine hQ _ _ ?_
            rw [hop]
            exact Pm.okL rfl e1 hm3
          · rw [e2] at c5
            have := lt_i (by omega) (by omega) c5
            refine bX10_text_112 (i1 := j) rfl (by omega) (i2 := 51 + 125 * u + j) (by rw [nI_1, nI_add]; congr 1; omega) (by omega) ?_
            rw [nI_1]
            refine ih (j + 1) _ (by omega) (by omega) ?_ ((xup_o (by decide)).trans e5) ((congrFun (xup_o (by decide)) 7).trans e7) (hm3.up (by simp [mgL]))
            rw [xup_s, e1, e5]
            have := wrS_at ((xup (xup (xup (xup im 0 8 (nI u)) 0 5 0) 0 6 0) 0 7 0) 5) 0 l j (by omega)
            rw [Nat.mul_zero, Nat.zero_add] at this
            rw [this, cpS_s]
      refine key (2 * l.length + 1) 0 _ (by omega) (by omega) ?_ ?_ ?_ ?_
      · rw [xup_s, xup_s, hP1.1, cpS_0, xup_o (by decide), hP1.2.2.2.1]
      · rw [xup_o (by decide), xup_o (by decide)]; exact hw1
      · rw [xup_o (by decide), xup_o (by decide)]; exact hP1.2.2.2.1
      · exact (hm2.up (by simp [mgL])).up (by simp [mgL])

theorem pX5_readsComparison {bo : Bool} {s : Nat → Int32} {n u f : Nat} (h2 : s 2 = nI n) (hn : n ≤ 60) (hC : ∀ g, g ≤ f → PCc bo mX5_readsSum s n u g 3) : PCc bo mX5_readsComparison s n u (f + 1) 2 := by
  intro op a len D im r ho ha hl hD hP hf hr
  have hw : wgt 2 = 4 := rfl
  have hw1 : wgt 3 = 3 := rfl
  have hw6 : wgt 8 = 1 := rfl
  rw [hw] at hf
  rw [prs_l (by omega)] at hr
  obtain ⟨⟨b, o⟩, h1, K1, K2, K3⟩ := prs_ok (fun k => s (300 + k)) n u f 3 op a (by omega) ha (by rw [hw1]; omega)
  rw [h1] at hr
  simp only at K1 K2 K3
  obtain ⟨D, rfl⟩ : ∃ E, D = E + 1 := ⟨D - 1, by omega⟩
  obtain ⟨D3, hD3⟩ : ∃ E, D = E + 2 := ⟨D - 2, by omega⟩
  refine SpI.of [some (.ref 28), some (.int (nI op)), none] rfl (by decide) rfl (fun Q hQ => ?_)
  refine bX5_readsComparison_0 (hC f (Nat.le_refl f) op a len D im (b, o) ho ha hl (by omega) hP (by rw [hw1]; omega) h1) ?_
  rintro x im1 ⟨hm1, h3, hx⟩
  cases o with
  | none =>
    obtain ⟨rfl, hcc⟩ := hx
    have e := Option.some.inj hr
    refine bX5_readsComparison_5 (fun c => absurd rfl c) (fun _ => ?_)
    refine bX5_readsComparison_8 ?_
    rw [← e] at hQ
    exact hQ _ _ ⟨hm1, h3, rfl, hcc⟩
  | some l =>
    obtain ⟨rfl, hP1', hw2⟩ := hx
    obtain ⟨q1, q2, _⟩ := K3 l rfl
    have hP1 := hP.k hm1 h3 hP1'
    obtain ⟨f, rfl⟩ : ∃ F, f = F + 1 := ⟨f - 1, by omega⟩
    have hr0 : sqR (prs (fun k => s (300 + k)) n u (f + 1) 8 op b) (fun e k => some (e, some (l ++ k))) = some r := hr
    have hrr2 : prs (fun k => s (300 + k)) n u (f + 1) 8 op b = if isOp 2 (lkA (fun k => s (300 + k)) n b) then sqR (prs (fun k => s (300 + k)) n u f 3 op (b + 1)) (fun b2 l => some (b2, some (l ++ [(3, lkA (fun k => s (300 + k)) n b)]))) else some (b, some []) := prs_t (by omega)
    rw [hrr2] at hr0
    refine bX5_readsComparison_5 (fun _ => ?_) (fun c => absurd c (by decide))
    refine bX5_readsComparison_10 (by rw [hD3]; exact pX5_next (d := D3 + 1) hP1 h2 hn K2) ?_
    rintro _ _ ⟨rfl, rfl⟩
    have stop : ¬ isOp 2 (lkA (fun k => s (300 + k)) n b) → V mX5_readsComparison (D + 1) (0, 0) 33 [some (.ref 28), some (.int (nI op)), some (.int (lkA (fun k => s (300 + k)) n b))] [] (SC bo) im1 Q := by
      intro h
      rw [if_neg h] at hr0
      have e : (b, some (l ++ [])) = r := Option.some.inj hr0
      rw [List.append_nil] at e
      refine bX5_readsComparison_33 ?_
      rw [← e] at hQ
      exact hQ _ _ ⟨hm1, h3, rfl, hP1', hw2⟩
    have go : isOp 2 (lkA (fun k => s (300 + k)) n b) → V mX5_readsComparison (D + 1) (0, 0) 35 [some (.ref 28), some (.int (nI op)), some (.int (lkA (fun k => s (300 + k)) n b))] [] (SC bo) im1 Q := by
      intro h
      rw [if_pos h] at hr0
      have hlt : b < n := lkA_lt (isOp_s h).2
      have hq2 := q2 (by omega)
      obtain ⟨⟨b2, o2⟩, hr1, z1, z2, z3⟩ := prs_ok (fun k => s (300 + k)) n u f 3 op (b + 1) (by omega) hlt (by rw [hw1]; omega)
      rw [hr1] at hr0
      simp only at z1 z2 z3
      refine bX5_readsComparison_35 (by rw [hP1.1, nI_1]; exact hC f (by omega) op (b + 1) (len + l.length) D _ (b2, o2) ho hlt (by omega) (by omega) hP1.up (by rw [hw1]; omega) hr1) ?_
      rintro x im2 ⟨hm2, h23, hx⟩
      have hm3 : kR im im2 := (hm1.up (by omega)).tr hm2
      cases o2 with
      | none =>
        obtain ⟨rfl, hcc⟩ := hx
        have e := Option.some.inj hr0
        refine bX5_readsComparison_50 (fun c => absurd rfl c) (fun _ => ?_)
        refine bX5_readsComparison_53 ?_
        rw [← e] at hQ
        exact hQ _ _ ⟨hm3, h23, rfl, hcc⟩
      | some k =>
        obtain ⟨rfl, hP2, hw3⟩ := hx
        obtain ⟨y1, y2, _⟩ := z3 k rfl
        have e : (b2, some (l ++ (k ++ [(3, lkA (fun k => s (300 + k)) n b)]))) = r := Option.some.inj hr0
        rw [xup_o (by decide), hw2, ← wrC_app] at hw3
        refine bX5_readsComparison_50 (fun _ => ?_) (fun c => absurd c (by decide))
        refine bX5_readsComparison_55 (addTok hP2 (by omega)) ?_
        rintro _ _ rfl
        refine bX5_readsComparison_64 ?_
        rw [← e] at hQ
        refine hQ _ _ ⟨(hm3.up (by omega)).up (by omega), ?_, rfl, ?_, ?_⟩
        · rw [xup_o (by decide), xup_o (by decide)]; exact h23
        · rw [xup_at, List.length_append, List.length_append]
          congr 1
          show len + l.length + k.length + 1 = len + (l.length + (k.length + 1))
          omega
        · rw [xup_o (by decide), xup_s, hw3, ← List.append_assoc, wrC_app (k := [_]), List.length_append, ← Nat.add_assoc]
          rfl
    refine bX5_readsComparison_14 (fun h => (go (Or.inr (Or.inr (Or.inl ⟨rfl, Or.inl h⟩))))) (fun d1 => ?_)
    refine bX5_readsComparison_21 (fun h => (go (Or.inr (Or.inr (Or.inl ⟨rfl, Or.inr (Or.inl h)⟩))))) (fun d2 => ?_)
    refine bX5_readsComparison_27 (fun h => (go (Or.inr (Or.inr (Or.inl ⟨rfl, Or.inr (Or.inr h)⟩))))) (fun d3 => ?_)
    exact stop (fun g => by rcases g with ⟨g, _⟩ | ⟨g, _⟩ | ⟨_, e | e | e⟩ | ⟨g, _⟩ | ⟨g, _⟩ <;> first | exact d1 e | exact d2 e | exact d3 e | exact absurd g (by decide))
theorem pX5_readsFactor {bo : Bool} {s : Nat → Int32} {n u f : Nat} (h2 : s 2 = nI n) (hn : n ≤ 60) (hu : u < 2) (hC5 : PCc bo mX5_readsFactor s n u f 5) (hC0 : PCc bo mX5_readsAny s n u f 0) : PCc bo mX5_readsFactor s n u (f + 1) 5 := by
  intro op a len D im r ho ha hl hD hP hf hr
  have hw : wgt 5 = 1 := rfl
  have hw0 : wgt 0 = 6 := rfl
  rw [hw] at hf
  rw [prs_5] at hr
  obtain ⟨D, rfl⟩ : ∃ E, D = E + 1 := ⟨D - 1, by omega⟩
  obtain ⟨D3, rfl⟩ : ∃ E, D = E + 2 := ⟨D - 2, by omega⟩
  refine SpI.of [some (.ref 28), some (.int (nI op)), none, none, none] rfl (by decide) rfl (fun Q hQ => ?_)
  refine bX5_readsFactor_0 (pX5_next (d := D3 + 1) hP h2 hn ha) ?_
  rintro _ _ ⟨rfl, rfl⟩
  refine bX5_readsFactor_4 pX5_isDigit ?_
  rintro _ _ ⟨rfl, rfl⟩
  refine bX5_readsFactor_9 (fun c1 => ?_) (fun c1 => ?_)
  rotate_left
  · rw [b2i_nz] at c1
    rw [if_neg (nm_dg hu c1), if_pos c1] at hr
    have e := Option.some.inj hr
    have hdg := dgs_4 c1
    refine bX5_readsFactor_12 (pX5_readNumber hP h2 hn ha (by omega)) ?_
    rintro im1 ⟨k1, k2, k3, k4⟩
    refine bX5_readsFactor_16 ?_
    rw [← e] at hQ
    exact hQ _ _ ⟨k1, k2, rfl, k3, by rw [k4]; rfl⟩
  rw [b2i_z] at c1
  refine bX5_readsFactor_18 (pX5_nameOf hP.2.1 hu) ?_
  rintro _ _ ⟨rfl, rfl⟩
  by_cases cn : isNm u (lkA (fun k => s (300 + k)) n a)
  · rw [if_pos cn] at hr
    have e := Option.some.inj hr
    obtain ⟨t1, t2⟩ := nmI_tok cn
    have hlt : a < n := by
      refine lkA_lt (tp := (fun k => s (300 + k))) (fun h => ?_)
      rw [h] at cn
      have e : ∀ j, ¬ (-1 : Int32) = nameC u j := fun j h => by
        obtain ⟨h1, h2⟩ := nameC_lt u j
        rw [← h] at h1
        exact nI_nm1 (n := nnat (nameC u j)) (by omega) (by rw [← h]; exact h1.symm)
      rcases cn with c | c | c <;> exact e _ c
    refine bX5_readsFactor_23 (fun c => absurd c t2) (fun _ => ?_)
    refine bX5_readsFactor_28 (by rw [hP.1, nI_1]; exact addTok hP.up.2.2.1 (by omega)) ?_
    rintro _ _ rfl
    refine bX5_readsFactor_47 ?_
    rw [← e] at hQ
    refine hQ _ _ ⟨((kR.rf.up (by omega)).up (by omega)).up (by omega), ?_, rfl, xup_at, ?_⟩
    · rw [xup_o (by decide), xup_o (by decide), xup_at]
    · rw [xup_o (by decide), xup_s, xup_o (by decide), t1]; rfl
  rw [if_neg cn, if_neg c1] at hr
  refine bX5_readsFactor_23 (fun _ => ?_) (fun c => absurd (by rw [nmI_0 cn]; decide) c)
  have hfl : (∃ c : Nat, c ≤ 60 ∧ im 29 1 = nI c) := ⟨len, by omega, hP.2.2.1⟩
  refine bX5_readsFactor_50 (fun c5 => ?_) (fun c5 => ?_)
  rotate_left
  · have h5 : op = 5 := by
      have : ¬ op < 5 := fun h => c5 ((nI_ltI (a := op) (b := 5) (by omega) (by omega)).mpr h)
      omega
    have e : (a, none) = r := by
      by_cases c3 : (lkA (fun k => s (300 + k)) n a) = 33
      · rw [if_pos c3, if_pos h5] at hr; exact Option.some.inj hr
      · rw [if_neg c3] at hr
        by_cases c4 : (lkA (fun k => s (300 + k)) n a) = 40
        · rw [if_pos c4, if_pos h5] at hr; exact Option.some.inj hr
        · rw [if_neg c4] at hr; exact Option.some.inj hr
    refine bX5_readsFactor_55 ?_
    rw [← e] at hQ
    exact hQ _ _ ⟨kR.rf, hP.1, rfl, hfl⟩
  have h5 : op < 5 := (nI_ltI (a := op) (b := 5) (by omega) (by omega)).mp c5
  refine bX5_readsFactor_57 (pX5_takes (d := D3) hP h2 hn ha) ?_
  rintro x im1 (⟨rfl, c3, him⟩ | ⟨rfl, c3, him⟩) <;> rw [him]
  · rw [if_pos c3, if_neg (by omega)] at hr
    have hlt : a < n := lkA_lt (tp := (fun k => s (300 + k))) (fun h => by rw [h] at c3; exact absurd c3 (by decide))
    refine bX5_readsFactor_63 (fun c => absurd c (by decide)) (fun _ => ?_)
    obtain ⟨⟨b, o⟩, hr1, z1, z2, z3⟩ := prs_ok (fun k => s (300 + k)) n u f 5 (op + 1) (a + 1) (by omega) hlt (by rw [hw]; omega)
    rw [hr1] at hr
    simp only at z1 z2 z3
    refine bX5_readsFactor_66 (by rw [nI_1]; exact hC5 (op + 1) (a + 1) len (D3 + 2) _ (b, o) (by omega) hlt (by omega) (by omega) hP.up (by rw [hw]; omega) hr1) ?_
    rintro x im2 ⟨hm2, h23, hx⟩
    have hm3 : kR im im2 := (kR.rf.up (by omega)).tr hm2
    cases o with
    | none =>
      obtain ⟨rfl, c60, hc1, hc2⟩ := hx
      have e := Option.some.inj hr
      refine bX5_readsFactor_73 (addTok2 hc2 hc1) ?_
      rintro _ im3 ⟨hk3, h33, hcc⟩
      refine bX5_readsFactor_84 (Or.inl rfl) ?_
      rw [← e] at hQ
      exact hQ _ _ ⟨hm3.tr hk3, h33.trans h23, rfl, hcc⟩
    | some l =>
      obtain ⟨rfl, hP2, hw2⟩ := hx
      obtain ⟨q1, q2, _⟩ := z3 l rfl
      have e := Option.some.inj hr
      rw [xup_o (by decide)] at hw2
      refine bX5_readsFactor_73 (addTok hP2 (by omega)) ?_
      rintro _ _ rfl
      refine bX5_readsFactor_84 (Or.inr rfl) ?_
      rw [← e] at hQ
      refine hQ _ _ ⟨(hm3.up (by omega)).up (by omega), ?_, rfl, ?_, ?_⟩
      · rw [xup_o (by decide), xup_o (by decide)]; exact h23
      · rw [xup_at, List.length_append, ← Nat.add_assoc]; rfl
      · rw [xup_o (by decide), xup_s, hw2]
        show _ = wrC u (im 30) len (l ++ [(2, 0)])
        rw [wrC_app]
        rfl
  rw [if_neg c3] at hr
  refine bX5_readsFactor_63 (fun _ => ?_) (fun c => absurd rfl c)
  have n120 : ∀ im3 : XI, (∀ r', r = r' → True) → RPc s u len im r 0 im3 → V mX5_readsFactor (D3 + 2 + 1) (0, 0) 120 [some (.ref 28), some (.int (nI op)), some (.int (lkA (fun k => s (300 + k)) n a)), some (.int (nmI u (lkA (fun k => s (300 + k)) n a))), none] [] (SC bo) im3 Q := by
    intro im3 _ h
    refine bX5_readsFactor_120 ?_
    refine bX5_readsFactor_121 (Or.inl rfl) ?_
    exact hQ _ _ h
  refine bX5_readsFactor_88 (pX5_takes (d := D3) hP h2 hn ha) ?_
  rintro x im1 (⟨rfl, c4, him⟩ | ⟨rfl, c4, him⟩) <;> rw [him]
  rotate_left
  · rw [if_neg c4] at hr
    have e := Option.some.inj hr
    refine bX5_readsFactor_94 (fun _ => ?_) (fun c => absurd rfl c)
    refine n120 _ (fun _ _ => trivial) ?_
    rw [← e]
    exact ⟨kR.rf, hP.1, rfl, hfl⟩
  rw [if_pos c4, if_neg (by omega)] at hr
  have hlt : a < n := lkA_lt (tp := (fun k => s (300 + k))) (fun h => by rw [h] at c4; exact absurd c4 (by decide))
  refine bX5_readsFactor_94 (fun c => absurd c (by decide)) (fun _ => ?_)
  obtain ⟨⟨b, o⟩, hr1, z1, z2, z3⟩ := prs_ok (fun k => s (300 + k)) n u f 0 (op + 1) (a + 1) (by omega) hlt (by rw [hw0]; omega)
  rw [hr1] at hr
  simp only at z1 z2 z3
  refine bX5_readsFactor_97 (by rw [nI_1]; exact hC0 (op + 1) (a + 1) len (D3 + 2) _ (b, o) (by omega) hlt (by omega) (by omega) hP.up (by rw [hw0]; omega) hr1) ?_
  rintro x im2 ⟨hm2, h23, hx⟩
  have hm3 : kR im im2 := (kR.rf.up (by omega)).tr hm2
  cases o with
  | none =>
    obtain ⟨rfl, hcc⟩ := hx
    have e := Option.some.inj hr
    refine bX5_readsFactor_104 (fun _ => ?_) (fun c => absurd rfl c)
    refine n120 _ (fun _ _ => trivial) ?_
    rw [← e]
    exact ⟨hm3, h23, rfl, hcc⟩
  | some l =>
    obtain ⟨rfl, hP2, hw2⟩ := hx
    obtain ⟨q1, q2, _⟩ := z3 l rfl
    rw [xup_o (by decide)] at hw2
    have hr2 : (if lkA (fun k => s (300 + k)) n b = 41 then some (b + 1, some l) else some (b, none)) = some r := hr
    refine bX5_readsFactor_104 (fun c => absurd c (by decide)) (fun _ => ?_)
    refine bX5_readsFactor_107 (pX5_takes (d := D3) (hP.k hm3 h23 hP2) h2 hn z2) ?_
    rintro x im4 (⟨rfl, c6, him⟩ | ⟨rfl, c6, him⟩) <;> rw [him]
    · rw [if_pos c6] at hr2
      have e := Option.some.inj hr2
      refine bX5_readsFactor_113 (fun c => absurd c (by decide)) (fun _ => ?_)
      refine bX5_readsFactor_116 ?_
      refine bX5_readsFactor_121 (Or.inr rfl) ?_
      rw [← e] at hQ
      exact hQ _ _ ⟨hm3.up (by omega), xup_at, rfl, (congrFun (xup_o (by decide)) 1).trans hP2, (xup_o (by decide)).trans hw2⟩
    · rw [if_neg c6] at hr2
      have e := Option.some.inj hr2
      refine bX5_readsFactor_113 (fun _ => ?_) (fun c => absurd rfl c)
      refine n120 _ (fun _ _ => trivial) ?_
      rw [← e]
      exact ⟨hm3, h23, rfl, len + l.length, by omega, hP2⟩
theorem PCc_0 (bo : Bool) (mt : XM) (s : Nat → Int32) (n u m : Nat) : PCc bo mt s n u 0 m := fun op a len D im r _ _ _ _ _ hf _ => absurd hf (by omega)
theorem parC_all {bo : Bool} {s : Nat → Int32} {n u : Nat} (h2 : s 2 = nI n) (hn : n ≤ 60) (hu : u < 2) : ∀ F f : Nat, f ≤ F → PCc bo mX5_readsFactor s n u f 5 ∧ PCc bo mX5_readsProduct s n u f 4 ∧ PCc bo mX5_readsSum s n u f 3 ∧ PCc bo mX5_readsComparison s n u f 2 ∧ PCc bo mX5_readsAll s n u f 1 ∧ PCc bo mX5_readsAny s n u f 0 := by
  intro F
  induction F with
  | zero =>
    intro f hf
    obtain rfl : f = 0 := by omega
    exact ⟨PCc_0 _ _ _ _ _ _, PCc_0 _ _ _ _ _ _, PCc_0 _ _ _ _ _ _, PCc_0 _ _ _ _ _ _, PCc_0 _ _ _ _ _ _, PCc_0 _ _ _ _ _ _⟩
  | succ F ih =>
    intro f hf
    rcases Nat.lt_or_ge f (F + 1) with h | h
    · exact ih f (by omega)
    · obtain rfl : f = F + 1 := by omega
      exact ⟨pX5_readsFactor h2 hn hu (ih F (Nat.le_refl F)).1 (ih F (Nat.le_refl F)).2.2.2.2.2, pX5_readsProduct h2 hn (fun g hg => (ih g hg).1), pX5_readsSum h2 hn (fun g hg => (ih g hg).2.1), pX5_readsComparison h2 hn (fun g hg => (ih g hg).2.2.1), pX5_readsAll h2 hn (fun g hg => (ih g hg).2.2.2.1), pX5_readsAny h2 hn (fun g hg => (ih g hg).2.2.2.2.1)⟩
theorem pX5_reads {d : Nat} {im : XI} {bo : Bool} {s : Nat → Int32} {n u : Nat} {v : Int32} (ht : TaR 0 s im) (h2 : s 2 = nI n) (hn : n ≤ 60) (hv : v = nI u) (hu : u < 2) : SpI mX5_reads (d + 39) [.ref 28, .int v] (SC bo) im (fun x im' => kR im (xup im' 28 2 (im 28 2)) ∧ im' 28 3 = nI (prT s u).1 ∧ (∀ a, 28 < a → a ≠ 29 → a ≠ 30 → im' a = im a) ∧ match (prT s u).2 with | none => x = 0 | some l => x = b2i (nI (prT s u).1 = s 2) ∧ im' 29 1 = nI l.length ∧ im' 30 = wrC u (im 30) 0 l) := by
  refine SpI.of [some (.ref 28), some (.int v)] rfl (by decide) rfl (fun Q hQ => ?_)
  subst hv
  obtain ⟨hr, k1, k2, k3⟩ := prT_ok (s := s) (u := u) h2 hn
  obtain ⟨r, her⟩ : ∃ r, prT s u = r := ⟨_, rfl⟩
  rw [her] at hr k1 k2 k3 hQ
  obtain ⟨b, o⟩ := r
  simp only at k1 k2 k3
  have fx : ∀ im1 : XI, kR (xup (xup im 28 2 (nI u)) 28 3 0) im1 → kR im (xup im1 28 2 (im 28 2)) ∧ ∀ a, 28 < a → a ≠ 29 → a ≠ 30 → im1 a = im a := by
    intro im1 hk
    refine ⟨fun q k hq => ?_, fun a h1 h2 h3 => ?_⟩
    · simp only [xup]
      by_cases c : q = 28 ∧ k = 2
      · rw [if_pos c, c.1, c.2]
      · rw [if_neg c, hk q k hq]
        simp only [xup]
        rw [if_neg (fun e => hq (Or.inl e)), if_neg c]
    · funext k
      rw [hk a k (by omega), xup_o (by omega), xup_o (by omega)]
  have hP0 : PsC s u 0 0 (xup (xup (xup im 28 2 (nI u)) 28 3 0) 29 1 0) := by
    refine ⟨?_, ?_, xup_at, ?_, ?_⟩
    · rw [xup_o (by decide), xup_at]; rfl
    · rw [xup_o (by decide), xup_ne (by decide), xup_at]
    · rw [xup_o (by decide), xup_o (by decide), xup_o (by decide)]; exact ht.1
    · intro k hk
      rw [xup_o (by decide), xup_o (by decide), xup_o (by decide)]; exact ht.2 k hk
  refine bX5_reads_0 (pX6_clear xcode.1) ?_
  rintro _ rfl
  refine bX5_reads_17 ((parC_all h2 hn hu 1000 1000 (Nat.le_refl _)).2.2.2.2.2 0 0 0 (d + 38) _ (b, o) (by omega) (by omega) (by omega) (by omega) hP0 (by show 12 * (n - 0) + 6 < 1000; omega) hr) ?_
  rintro x im1 ⟨hm1, h3, hx⟩
  obtain ⟨f1, f2⟩ := fx im1 ((kR.rf.up (by omega)).tr hm1)
  cases o with
  | none =>
    obtain ⟨rfl, hcc⟩ := hx
    refine bX5_reads_22 (fun _ => ?_) (fun c => absurd rfl c)
    refine bX5_reads_43 ?_
    refine bX5_reads_44 (Or.inl rfl) ?_
    exact hQ _ _ ⟨f1, h3, f2, rfl⟩
  | some l =>
    obtain ⟨rfl, hl, hw2⟩ := hx
    rw [Nat.zero_add] at hl
    have hw3 : im1 30 = wrC u (im 30) 0 l := by rw [hw2, xup_o (by decide), xup_o (by decide), xup_o (by decide)]
    refine bX5_reads_22 (fun c => absurd c (by decide)) (fun _ => ?_)
    refine bX5_reads_25 (pX6_size xtape.1) ?_
    rintro _ _ ⟨rfl, rfl⟩
    have e12 : im1 12 1 = s 2 := (hP0.2.2.2.kR hm1).1
    rw [e12, h3]
    refine bX5_reads_36 (fun c => ?_) (fun c => ?_)
    · refine bX5_reads_43 ?_
      refine bX5_reads_44 (Or.inl rfl) ?_
      exact hQ _ _ ⟨f1, h3, f2, (b2i_f c).symm, hl, hw3⟩
    · refine bX5_reads_39 ?_
      refine bX5_reads_44 (Or.inr rfl) ?_
      exact hQ _ _ ⟨f1, h3, f2, (b2i_t c).symm, hl, hw3⟩

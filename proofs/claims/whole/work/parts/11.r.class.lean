theorem addTok {d len : Nat} {bo : Bool} {im : XI} {v : Int32} (h : im 29 1 = nI len) (hl : len < 60) : SpI mX6_add d [.ref 29, .int v] (SC bo) im (fun _ im' => im' = xup (xup im 30 len v) 29 1 (nI (len + 1))) :=
  SpI.mono (fun x im' h => by rcases h with ⟨_, _, h⟩ | ⟨h, _⟩; exact h; omega) (pX6_add xcode.1 xcode.2.1 xcode.2.2 h (by omega))
theorem addTok2 {d len : Nat} {bo : Bool} {im : XI} {v : Int32} (h : im 29 1 = nI len) (hl : len ≤ 60) : SpI mX6_add d [.ref 29, .int v] (SC bo) im (fun _ im' => kR im im' ∧ im' 28 3 = im 28 3 ∧ ∃ c : Nat, c ≤ 60 ∧ im' 29 1 = nI c) :=
  SpI.mono (fun x im' h2 => by
    rcases h2 with ⟨h3, _, h4⟩ | ⟨h3, _, h4⟩
    · subst h4
      exact ⟨(kR.rf.up (by omega)).up (by omega), by rw [xup_o (by decide), xup_o (by decide)], len + 1, by omega, xup_at⟩
    · subst h4
      exact ⟨kR.rf, rfl, len, hl, h⟩) (pX6_add xcode.1 xcode.2.1 xcode.2.2 h hl)
theorem pX5_next {d : Nat} {im : XI} {bo : Bool} {s : Nat → Int32} {u a len n : Nat} (h : PsC s u a len im) (h2 : s 2 = nI n) (hn : n ≤ 60) (ha : a ≤ n) : SpI mX5_next (d + 1) [.ref 28] (SC bo) im (fun x im' => x = lkA (fun k => s (300 + k)) n a ∧ im = im') := by
  refine SpI.of [some (.ref 28)] rfl (by decide) rfl (fun Q hQ => ?_)
  obtain ⟨h3, _, _, t1, t2⟩ := h
  have t1 : im 12 1 = nI n := t1.trans h2
  have t2 : ∀ k, k < nnat (s 2) → im 13 k = s (300 + k) := t2
  rw [h2, nnat_nI (by omega)] at t2
  refine bX5_next_0 (pX6_size xtape.1) ?_
  rintro _ _ ⟨rfl, rfl⟩
  rw [t1, h3]
  refine bX5_next_11 (fun c => ?_) (fun c => ?_)
  · have := ge_i (by omega) (by omega) c
    refine bX5_next_28 ?_
    refine bX5_next_29 ?_
    exact hQ _ _ ⟨(if_neg (by omega)).symm, rfl⟩
  · have := lt_i (by omega) (by omega) c
    refine bX5_next_14 (pX6_at xtape.1 xtape.2.1 xtape.2.2 t1 hn h3 this) ?_
    rintro _ _ ⟨rfl, rfl⟩
    refine bX5_next_25 ?_
    refine bX5_next_29 ?_
    exact hQ _ _ ⟨by rw [t2 a this]; exact (if_pos this).symm, rfl⟩
theorem pX5_takes {d : Nat} {im : XI} {bo : Bool} {s : Nat → Int32} {u a len n : Nat} {c : Int32} (h : PsC s u a len im) (h2 : s 2 = nI n) (hn : n ≤ 60) (ha : a ≤ n) : SpI mX5_takes (d + 2) [.ref 28, .int c] (SC bo) im (fun x im' => (x = 1 ∧ lkA (fun k => s (300 + k)) n a = c ∧ im' = xup im 28 3 (nI (a + 1))) ∨ (x = 0 ∧ ¬ lkA (fun k => s (300 + k)) n a = c ∧ im' = im)) := by
  refine SpI.of [some (.ref 28), some (.int c)] rfl (by decide) rfl (fun Q hQ => ?_)
  refine bX5_takes_0 (pX5_next h h2 hn ha) ?_
  rintro _ _ ⟨rfl, rfl⟩
  refine bX5_takes_4 (fun e => ?_) (fun e => ?_)
  · refine bX5_takes_10 ?_
    rw [h.1, nI_1]
    exact hQ _ _ (Or.inl ⟨rfl, e, rfl⟩)
  · refine bX5_takes_8 ?_
    exact hQ _ _ (Or.inr ⟨rfl, e, rfl⟩)
theorem pX5_isDigit {d : Nat} {im : XI} {S : XS} {c : Int32}  : SpI mX5_isDigit d [.int c] S im (fun x im' => x = b2i (isDg c) ∧ im = im') := by
  refine SpI.of [some (.int c)] rfl (by decide) rfl (fun Q hQ => ?_)
  have bad : ¬ isDg c → V mX5_isDigit d (0, 0) 16 [some (.int c)] [] S im Q := by
    intro h
    refine bX5_isDigit_16 ?_
    refine bX5_isDigit_17 (Or.inl rfl) ?_
    exact hQ _ _ ⟨(b2i_f h).symm, rfl⟩
  refine bX5_isDigit_0 (fun h => bad (fun g => by have := g.1; rw [i_le] at this; rw [i_lt] at h; omega)) (fun h => ?_)
  refine bX5_isDigit_6 (fun h2 => bad (fun g => by have := g.2; rw [i_le] at this; rw [i_lt] at h2; omega)) (fun h2 => ?_)
  refine bX5_isDigit_12 ?_
  refine bX5_isDigit_17 (Or.inr rfl) ?_
  exact hQ _ _ ⟨(b2i_t ⟨by rw [i_le]; rw [i_lt] at h; omega, by rw [i_le]; rw [i_lt] at h2; omega⟩).symm, rfl⟩
theorem pX5_nameOf {d : Nat} {im : XI} {bo : Bool} {u : Nat} {c : Int32} (h : im 28 2 = nI u) (hu : u < 2) : SpI mX5_nameOf d [.ref 28, .int c] (SC bo) im (fun x im' => x = nmI u c ∧ im = im') := by
  refine SpI.of [some (.ref 28), some (.int c), none, none] rfl (by decide) rfl (fun Q hQ => ?_)
  refine bX5_nameOf_0 ?_
  have e : ∀ j, j < 3 → (im 28 2) * 3 + nI j = nI (3 * u + j) := by
    intro j _
    rw [h, show (3 : Int32) = nI 3 from rfl, pk_mul, nI_add, Nat.mul_comm]
  refine bX5_nameOf_2 (fun g => absurd g (by decide)) (fun _ => ?_)
  have e0 : (im 28 2) * 3 + 0 = nI (3 * u + 0) := e 0 (by omega)
  refine bX5_nameOf_7 (fun g => absurd g (by rw [e0]; exact nI_pos (by omega))) (fun _ => ?_)
  refine bX5_nameOf_20 (fun g => absurd (ge_i (a := 6) (b := 3 * u + 0) (by omega) (by omega) (by rw [← e0]; exact g)) (by omega)) (fun _ => ?_)
  refine bX5_nameOf_28 e0 (by omega) (fun n0 => ?_) (fun n0 => ?_)
  rotate_left
  · refine bX5_nameOf_37 ?_
    refine hQ _ _ ⟨?_, rfl⟩
    unfold nmI nameC
    rw [if_pos n0]
    rfl
  refine bX5_nameOf_41 ?_
  rw [show (0 : Int32) + 1 = 1 from rfl]
  refine bX5_nameOf_2 (fun g => absurd g (by decide)) (fun _ => ?_)
  have e1 : (im 28 2) * 3 + 1 = nI (3 * u + 1) := e 1 (by omega)
  refine bX5_nameOf_7 (fun g => absurd g (by rw [e1]; exact nI_pos (by omega))) (fun _ => ?_)
  refine bX5_nameOf_20 (fun g => absurd (ge_i (a := 6) (b := 3 * u + 1) (by omega) (by omega) (by rw [← e1]; exact g)) (by omega)) (fun _ => ?_)
  refine bX5_nameOf_28 e1 (by omega) (fun n1 => ?_) (fun n1 => ?_)
  rotate_left
  · refine bX5_nameOf_37 ?_
    refine hQ _ _ ⟨?_, rfl⟩
    unfold nmI nameC
    rw [if_neg n0, if_pos n1]
    rfl
  refine bX5_nameOf_41 ?_
  rw [show (1 : Int32) + 1 = 2 from rfl]
  refine bX5_nameOf_2 (fun g => absurd g (by decide)) (fun _ => ?_)
  have e2 : (im 28 2) * 3 + 2 = nI (3 * u + 2) := e 2 (by omega)
  refine bX5_nameOf_7 (fun g => absurd g (by rw [e2]; exact nI_pos (by omega))) (fun _ => ?_)
  refine bX5_nameOf_20 (fun g => absurd (ge_i (a := 6) (b := 3 * u + 2) (by omega) (by omega) (by rw [← e2]; exact g)) (by omega)) (fun _ => ?_)
  refine bX5_nameOf_28 e2 (by omega) (fun n2 => ?_) (fun n2 => ?_)
  rotate_left
  · refine bX5_nameOf_37 ?_
    refine hQ _ _ ⟨?_, rfl⟩
    unfold nmI nameC
    rw [if_neg n0, if_neg n1, if_pos n2]
    rfl
  refine bX5_nameOf_41 ?_
  rw [show (2 : Int32) + 1 = 3 from rfl]
  refine bX5_nameOf_2 (fun _ => ?_) (fun g => absurd (by decide) g)
  refine bX5_nameOf_47 ?_
  refine hQ _ _ ⟨?_, rfl⟩
  unfold nmI nameC
  rw [if_neg n0, if_neg n1, if_neg n2]
theorem pX5_readNumber {d : Nat} {im : XI} {bo : Bool} {s : Nat → Int32} {u a len n : Nat} (h : PsC s u a len im) (h2 : s 2 = nI n) (hn : n ≤ 60) (ha : a ≤ n) (hl : len < 60) : SpV mX5_readNumber (d + 2) [.ref 28] (SC bo) im (fun im' => kR im im' ∧ im' 28 3 = nI (dgs (fun k => s (300 + k)) n 4 a 0).1 ∧ im' 29 1 = nI (len + 1) ∧ im' 30 = upd (im 30) len (dgs (fun k => s (300 + k)) n 4 a 0).2) := by
  refine SpV.of [some (.ref 28), none, none] rfl (by decide) rfl (fun Q hQ => ?_)
  have fin : ∀ (im1 : XI) (v w : Int32), kR im im1 → im1 28 3 = nI (dgs (fun k => s (300 + k)) n 4 a 0).1 → im1 29 1 = nI len → im1 30 = im 30 → v = (dgs (fun k => s (300 + k)) n 4 a 0).2 → V mX5_readNumber (d + 2) (0, 0) 48 [some (.ref 28), some (.int v), some (.int w)] [] (SC bo) im1 Q := by
    intro im1 v w hk h3 h1 h30 hv
    refine bX5_readNumber_48 (addTok h1 hl) ?_
    rintro _ _ rfl
    refine bX5_readNumber_56 ?_
    refine hQ _ ⟨(hk.up (by omega)).up (by omega), ?_, xup_at, ?_⟩
    · rw [xup_o (by decide), xup_o (by decide)]; exact h3
    · rw [xup_o (by decide), xup_s, h30, hv]
  have key : ∀ (q k b : Nat) (v : Int32) (im1 : XI), q + k = 4 → b ≤ n → PsC s u b len im1 → im1 30 = im 30 → kR im im1 → dgs (fun k => s (300 + k)) n q b v = dgs (fun k => s (300 + k)) n 4 a 0 → V mX5_readNumber (d + 2) (0, 0) 4 [some (.ref 28), some (.int v), some (.int (nI k))] [] (SC bo) im1 Q := by
    intro q
    induction q with
    | zero =>
      intro k b v im1 g1 g2 hP1 h5 hm1 hd
      have hd' : (b, v) = dgs (fun k => s (300 + k)) n 4 a 0 := hd
      refine bX5_readNumber_4 (fun _ => ?_) (fun d1 => absurd ((nI_leI (a := 4) (b := k) (by omega) (by omega)).mpr (by omega)) d1)
      exact fin im1 v _ hm1 (by rw [← hd']; exact hP1.1) hP1.2.2.1 h5 (by rw [← hd'])
    | succ q ih =>
      intro k b v im1 g1 g2 hP1 h5 hm1 hd
      refine bX5_readNumber_4 (fun d1 => absurd (ge_i (a := 4) (by omega) (by omega) d1) (by omega)) (fun _ => ?_)
      refine bX5_readNumber_9 (pX5_next hP1 h2 hn g2) ?_
      rintro _ _ ⟨rfl, rfl⟩
      refine bX5_readNumber_13 pX5_isDigit ?_
      rintro _ _ ⟨rfl, rfl⟩
      refine bX5_readNumber_16 (fun d2 => ?_) (fun d2 => ?_)
      · rw [b2i_z] at d2
        rw [dgs_2 d2] at hd
        exact fin im1 v _ hm1 (by rw [← hd]; exact hP1.1) hP1.2.2.1 h5 (by rw [← hd])
      · rw [b2i_nz] at d2
        have hlt : b < n := lkA_lt (tp := (fun k => s (300 + k))) (fun h => by rw [h] at d2; exact absurd d2.1 (by decide))
        rw [dgs_1 d2] at hd
        refine bX5_readNumber_19 (pX5_next hP1 h2 hn g2) ?_
        rintro _ _ ⟨rfl, rfl⟩
        refine bX5_readNumber_27 ?_
        rw [nI_1, hP1.1, nI_1, Int32.mul_comm v 10]
        exact ih (k + 1) (b + 1) _ _ (by omega) hlt hP1.up ((xup_o (by decide)).trans h5) (hm1.up (by omega)) hd
  refine bX5_readNumber_0 ?_
  exact key 4 0 a 0 im rfl ha h rfl kR.rf rfl
theorem pX5_readsAny {bo : Bool} {s : Nat → Int32} {n u f : Nat} (h2 : s 2 = nI n) (hn : n ≤ 60) (hC : ∀ g, g ≤ f → PCc bo mX5_readsAll s n u g 1) : PCc bo mX5_readsAny s n u (f + 1) 0 := by
  intro op a len D im r ho ha hl hD hP hf hr
  have hw : wgt 0 = 6 := rfl
  have hw1 : wgt 1 = 5 := rfl
  have hw6 : wgt 6 = 1 := rfl
  rw [hw] at hf
  rw [prs_l (by omega)] at hr
  obtain ⟨⟨b, o⟩, h1, K1, K2, K3⟩ := prs_ok (fun k => s (300 + k)) n u f 1 op a (by omega) ha (by rw [hw1]; omega)
  rw [h1] at hr
  simp only at K1 K2 K3
  obtain ⟨D, rfl⟩ : ∃ E, D = E + 1 := ⟨D - 1, by omega⟩
  obtain ⟨D3, hD3⟩ : ∃ E, D = E + 2 := ⟨D - 2, by omega⟩
  refine SpI.of [some (.ref 28), some (.int (nI op)), none, none] rfl (by decide) rfl (fun Q hQ => ?_)
  have fails : ∀ (b : Nat) (im1 : XI) (i : Int32), kR im im1 → im1 28 3 = nI b → (∃ c : Nat, c ≤ 60 ∧ im1 29 1 = nI c) → r = (b, none) → V mX5_readsAny (D + 1) (0, 0) 8 [some (.ref 28), some (.int (nI op)), some (.int 0), some (.int i)] [] (SC bo) im1 Q := by
    intro b im1 i hk h3 hc hrr
    have e49 : V mX5_readsAny (D + 1) (0, 0) 49 [some (.ref 28), some (.int (nI op)), some (.int 0), some (.int i)] [] (SC bo) im1 Q := by
      refine bX5_readsAny_49 (Or.inl rfl) ?_
      rw [hrr] at hQ
      exact hQ _ _ ⟨hk, h3, rfl, hc⟩
    exact bX5_readsAny_8 (fun _ => e49) (fun _ => bX5_readsAny_14 (fun _ => e49) (fun c => absurd rfl c))
  have loop : ∀ (g b i : Nat) (acc : List PStp) (im1 : XI) (rr : PRes), g ≤ f → b ≤ n → i ≤ b → len + acc.length ≤ b → PsC s u b (len + acc.length) im1 → im1 30 = wrC u (im 30) len acc → kR im im1 → 12 * (n - b) + 1 < g → prs (fun k => s (300 + k)) n u g 6 op b = some rr → apR acc rr = r → V mX5_readsAny (D + 1) (0, 0) 8 [some (.ref 28), some (.int (nI op)), some (.int 1), some (.int (nI i))] [] (SC bo) im1 Q := by
    intro g
    induction g with
    | zero => intro b i acc im1 rr g1 g2 gi g3 g4 g5 g6 g7; omega
    | succ g ih =>
      intro b i acc im1 rr g1 g2 gi g3 hP1 h5 hm1 g7 hrr hap
      have hrr2 : (if isOp 0 (lkA (fun k => s (300 + k)) n b) then sqR (prs (fun k => s (300 + k)) n u g 1 op (b + 1)) (fun b2 l => if 6 = 8 then some (b2, some (l ++ [(3, (lkA (fun k => s (300 + k)) n b))])) else sqR (prs (fun k => s (300 + k)) n u g 6 op b2) (fun e k => some (e, some (l ++ (3, (lkA (fun k => s (300 + k)) n b)) :: k)))) else some (b, some [])) = some rr := by
        have := hrr
        rw [prs_t (by omega)] at this
        exact this
      have stop : ¬ isOp 0 (lkA (fun k => s (300 + k)) n b) → ∀ (x : Int32), x = 1 → Q (some (.int x)) (SC bo) im1 := by
        intro h x hx
        rw [if_neg h] at hrr2
        obtain rfl := Option.some.inj hrr2
        have e : r = (b, some acc) := by
          rw [← hap]
          show (b, some (acc ++ [])) = _
          rw [List.append_nil]
        rw [e] at hQ
        exact hQ _ _ ⟨hm1, hP1.1, hx, hP1.2.2.1, h5⟩
      have go : isOp 0 (lkA (fun k => s (300 + k)) n b) → V mX5_readsAny (D + 1) (0, 0) 27 [some (.ref 28), some (.int (nI op)), some (.int 1), some (.int (nI i))] [] (SC bo) (xup im1 28 3 (nI (b + 1))) Q := by
        intro h
        rw [if_pos h] at hrr2
        have hlt : b < n := lkA_lt (isOp_s h).2
        obtain ⟨⟨b2, o2⟩, hr1, z1, z2, z3⟩ := prs_ok (fun k => s (300 + k)) n u g 1 op (b + 1) (by omega) hlt (by rw [hw1]; omega)
        rw [hr1] at hrr2
        simp only at z1 z2 z3
        refine bX5_readsAny_27 (hC g (by omega) op (b + 1) (len + acc.length) D _ (b2, o2) ho hlt (by omega) (by omega) hP1.up (by rw [hw1]; omega) hr1) ?_
        rintro x im2 ⟨hm2, h23, hx⟩
        have hm3 : kR im im2 := (hm1.up (by omega)).tr hm2
        cases o2 with
        | none =>
          obtain ⟨rfl, c60, hc1, hc2⟩ := hx
          obtain rfl := Option.some.inj hrr2
          refine bX5_readsAny_32 (addTok2 hc2 hc1) ?_
          rintro _ im3 ⟨hk3, h33, hcc⟩
          refine bX5_readsAny_42 ?_
          exact fails b2 im3 _ (hm3.tr hk3) (h33.trans h23) hcc hap.symm
        | some l =>
          obtain ⟨rfl, hP2, hw2⟩ := hx
          obtain ⟨q1, q2, _⟩ := z3 l rfl
          rw [xup_o (by decide), h5, ← wrC_app] at hw2
          have el : len + acc.length + l.length = len + (acc ++ l).length := by rw [List.length_append]; omega
          rw [el] at hP2
          refine bX5_readsAny_32 (addTok hP2 (by omega)) ?_
          rintro _ im3 him3
          have el2 : len + (acc ++ l).length + 1 = len + (acc ++ l ++ [(3, 124)]).length := by rw [List.length_append (bs := [_])]; rfl
          have h54 : im3 30 = wrC u (im 30) len (acc ++ l ++ [(3, 124)]) := by rw [him3, xup_o (by decide), xup_s, hw2, wrC_app (k := [_])]; rfl
          have hm4 : kR im im3 := by rw [him3]; exact (hm3.up (by omega)).up (by omega)
          have h33 : im3 28 3 = nI b2 := by rw [him3, xup_o (by decide), xup_o (by decide)]; exact h23
          have h31 : im3 29 1 = nI (len + (acc ++ l ++ [(3, 124)]).length) := by rw [him3, xup_at, el2]
          obtain ⟨r2, h2r, _, _, _⟩ := prs_ok (fun k => s (300 + k)) n u g 6 op b2 (by omega) z2 (by rw [hw6]; omega)
          have hr2 : sqR (prs (fun k => s (300 + k)) n u g 6 op b2) (fun e k => some (e, some (l ++ (3, (lkA (fun k => s (300 + k)) n b)) :: k))) = some rr := hrr2
          rw [h2r, show (fun e k => some (e, some (l ++ (3, (lkA (fun k => s (300 + k)) n b)) :: k))) = (fun (e : Nat) (k : List PStp) => some (e, some (l ++ [(3, (lkA (fun k => s (300 + k)) n b))] ++ k))) by funext e k; rw [List.append_assoc]; rfl, sq_ap] at hr2
          have hr3 := Option.some.inj hr2
          refine bX5_readsAny_42 ?_
          rw [nI_1]
          refine ih b2 (i + 1) (acc ++ l ++ [(3, 124)]) im3 r2 (by omega) z2 (by omega) (by rw [← el2, ← el]; omega) (hP.k hm4 h33 h31) h54 hm4 (by omega) h2r ?_
          rw [← hap, ← hr3, ap_ap, List.append_assoc]
          rw [show lkA (fun k => s (300 + k)) n b = 124 by rcases h with ⟨g, e⟩ | ⟨g, e⟩ | ⟨g, _⟩ | ⟨g, _⟩ | ⟨g, _⟩ <;> first | exact e | exact absurd g (by decide)]
      have e60 : 60 ≤ i → ¬ isOp 0 (lkA (fun k => s (300 + k)) n b) := by
        intro hi h
        have hlt : b < n := lkA_lt (isOp_s h).2
        omega
      refine bX5_readsAny_8 (fun c60 => ?_) (fun _ => ?_)
      · have h60 := ge_i (a := 60) (by omega) (by omega) c60
        exact bX5_readsAny_49 (Or.inr rfl) (stop (e60 h60) 1 rfl)
      refine bX5_readsAny_14 (fun c0 => absurd c0 (by decide)) (fun _ => ?_)
      refine bX5_readsAny_18 (by rw [hD3]; exact pX5_takes (d := D3) hP1 h2 hn g2) ?_
      rintro x im2 (⟨rfl, e, rfl⟩ | ⟨rfl, e, rfl⟩)
      · refine bX5_readsAny_24 (fun c0 => absurd c0 (by decide)) (fun _ => ?_)
        exact go (Or.inl ⟨rfl, e⟩)
      · refine bX5_readsAny_24 (fun _ => ?_) (fun c0 => absurd rfl c0)
        exact bX5_readsAny_49 (Or.inr rfl) (stop (fun g => e (by rcases g with ⟨g, e⟩ | ⟨g, e⟩ | ⟨g, _⟩ | ⟨g, _⟩ | ⟨g, _⟩ <;> first | exact e | exact absurd g (by decide))) 1 rfl)
  refine bX5_readsAny_0 (hC f (Nat.le_refl f) op a len D im (b, o) ho ha hl (by omega) hP (by rw [hw1]; omega) h1) ?_
  rintro x im1 ⟨hm1, h3, hx⟩
  refine bX5_readsAny_5 ?_
  cases o with
  | none =>
    obtain ⟨rfl, hcc⟩ := hx
    exact fails b im1 0 hm1 h3 hcc (Option.some.inj hr).symm
  | some l =>
    obtain ⟨rfl, hP1, hw2⟩ := hx
    obtain ⟨q1, q2, _⟩ := K3 l rfl
    obtain ⟨r2, h2r, _, _, _⟩ := prs_ok (fun k => s (300 + k)) n u f 6 op b (by omega) K2 (by rw [hw6]; have := q2 (by omega); omega)
    have hr2 : sqR (prs (fun k => s (300 + k)) n u f 6 op b) (fun e k => some (e, some (l ++ k))) = some r := hr
    rw [h2r, sq_ap] at hr2
    have hr3 := Option.some.inj hr2
    exact loop f b 0 l im1 r2 (Nat.le_refl f) K2 (by omega) (by omega) (hP.k hm1 h3 hP1) hw2 hm1 (by have := q2 (by omega); omega) h2r hr3
theorem pX5_readsAll {bo : Bool} {s : Nat → Int32} {n u f : Nat} (h2 : s 2 = nI n) (hn : n ≤ 60) (hC : ∀ g, g ≤ f → PCc bo mX5_readsComparison s n u g 2) : PCc bo mX5_readsAll s n u (f + 1) 1 := by
  intro op a len D im r ho ha hl hD hP hf hr
  have hw : wgt 1 = 5 := rfl
  have hw1 : wgt 2 = 4 := rfl
  have hw6 : wgt 7 = 1 := rfl
  rw [hw] at hf
  rw [prs_l (by omega)] at hr
  obtain ⟨⟨b, o⟩, h1, K1, K2, K3⟩ := prs_ok (fun k => s (300 + k)) n u f 2 op a (by omega) ha (by rw [hw1]; omega)
  rw [h1] at hr
  simp only at K1 K2 K3
  obtain ⟨D, rfl⟩ : ∃ E, D = E + 1 := ⟨D - 1, by omega⟩
  obtain ⟨D3, hD3⟩ : ∃ E, D = E + 2 := ⟨D - 2, by omega⟩
  refine SpI.of [some (.ref 28), some (.int (nI op)), none, none] rfl (by decide) rfl (fun Q hQ => ?_)
  have fails : ∀ (b : Nat) (im1 : XI) (i : Int32), kR im im1 → im1 28 3 = nI b → (∃ c : Nat, c ≤ 60 ∧ im1 29 1 = nI c) → r = (b, none) → V mX5_readsAll (D + 1) (0, 0) 8 [some (.ref 28), some (.int (nI op)), some (.int 0), some (.int i)] [] (SC bo) im1 Q := by
    intro b im1 i hk h3 hc hrr
    have e49 : V mX5_readsAll (D + 1) (0, 0) 49 [some (.ref 28), some (.int (nI op)), some (.int 0), some (.int i)] [] (SC bo) im1 Q := by
      refine bX5_readsAll_49 (Or.inl rfl) ?_
      rw [hrr] at hQ
      exact hQ _ _ ⟨hk, h3, rfl, hc⟩
    exact bX5_readsAll_8 (fun _ => e49) (fun _ => bX5_readsAll_14 (fun _ => e49) (fun c => absurd rfl c))
  have loop : ∀ (g b i : Nat) (acc : List PStp) (im1 : XI) (rr : PRes), g ≤ f → b ≤ n → i ≤ b → len + acc.length ≤ b → PsC s u b (len + acc.length) im1 → im1 30 = wrC u (im 30) len acc → kR im im1 → 12 * (n - b) + 1 < g → prs (fun k => s (300 + k)) n u g 7 op b = some rr → apR acc rr = r → V mX5_readsAll (D + 1) (0, 0) 8 [some (.ref 28), some (.int (nI op)), some (.int 1), some (.int (nI i))] [] (SC bo) im1 Q := by
    intro g
    induction g with
    | zero => intro b i acc im1 rr g1 g2 gi g3 g4 g5 g6 g7; omega
    | succ g ih =>
      intro b i acc im1 rr g1 g2 gi g3 hP1 h5 hm1 g7 hrr hap
      have hrr2 : (if isOp 1 (lkA (fun k => s (300 + k)) n b) then sqR (prs (fun k => s (300 + k)) n u g 2 op (b + 1)) (fun b2 l => if 7 = 8 then some (b2, some (l ++ [(3, (lkA (fun k => s (300 + k)) n b))])) else sqR (prs (fun k => s (300 + k)) n u g 7 op b2) (fun e k => some (e, some (l ++ (3, (lkA (fun k => s (300 + k)) n b)) :: k)))) else some (b, some [])) = some rr := by
        have := hrr
        rw [prs_t (by omega)] at this
        exact this
      have stop : ¬ isOp 1 (lkA (fun k => s (300 + k)) n b) → ∀ (x : Int32), x = 1 → Q (some (.int x)) (SC bo) im1 := by
        intro h x hx
        rw [if_neg h] at hrr2
        obtain rfl := Option.some.inj hrr2
        have e : r = (b, some acc) := by
          rw [← hap]
          show (b, some (acc ++ [])) = _
          rw [List.append_nil]
        rw [e] at hQ
        exact hQ _ _ ⟨hm1, hP1.1, hx, hP1.2.2.1, h5⟩
      have go : isOp 1 (lkA (fun k => s (300 + k)) n b) → V mX5_readsAll (D + 1) (0, 0) 27 [some (.ref 28), some (.int (nI op)), some (.int 1), some (.int (nI i))] [] (SC bo) (xup im1 28 3 (nI (b + 1))) Q := by
        intro h
        rw [if_pos h] at hrr2
        have hlt : b < n := lkA_lt (isOp_s h).2
        obtain ⟨⟨b2, o2⟩, hr1, z1, z2, z3⟩ := prs_ok (fun k => s (300 + k)) n u g 2 op (b + 1) (by omega) hlt (by rw [hw1]; omega)
        rw [hr1] at hrr2
        simp only at z1 z2 z3
        refine bX5_readsAll_27 (hC g (by omega) op (b + 1) (len + acc.length) D _ (b2, o2) ho hlt (by omega) (by omega) hP1.up (by rw [hw1]; omega) hr1) ?_
        rintro x im2 ⟨hm2, h23, hx⟩
        have hm3 : kR im im2 := (hm1.up (by omega)).tr hm2
        cases o2 with
        | none =>
          obtain ⟨rfl, c60, hc1, hc2⟩ := hx
          obtain rfl := Option.some.inj hrr2
          refine bX5_readsAll_32 (addTok2 hc2 hc1) ?_
          rintro _ im3 ⟨hk3, h33, hcc⟩
          refine bX5_readsAll_42 ?_
          exact fails b2 im3 _ (hm3.tr hk3) (h33.trans h23) hcc hap.symm
        | some l =>
          obtain ⟨rfl, hP2, hw2⟩ := hx
          obtain ⟨q1, q2, _⟩ := z3 l rfl
          rw [xup_o (by decide), h5, ← wrC_app] at hw2
          have el : len + acc.length + l.length = len + (acc ++ l).length := by rw [List.length_append]; omega
          rw [el] at hP2
          refine bX5_readsAll_32 (addTok hP2 (by omega)) ?_
          rintro _ im3 him3
          have el2 : len + (acc ++ l).length + 1 = len + (acc ++ l ++ [(3, 38)]).length := by rw [List.length_append (bs := [_])]; rfl
          have h54 : im3 30 = wrC u (im 30) len (acc ++ l ++ [(3, 38)]) := by rw [him3, xup_o (by decide), xup_s, hw2, wrC_app (k := [_])]; rfl
          have hm4 : kR im im3 := by rw [him3]; exact (hm3.up (by omega)).up (by omega)
          have h33 : im3 28 3 = nI b2 := by rw [him3, xup_o (by decide), xup_o (by decide)]; exact h23
          have h31 : im3 29 1 = nI (len + (acc ++ l ++ [(3, 38)]).length) := by rw [him3, xup_at, el2]
          obtain ⟨r2, h2r, _, _, _⟩ := prs_ok (fun k => s (300 + k)) n u g 7 op b2 (by omega) z2 (by rw [hw6]; omega)
          have hr2 : sqR (prs (fun k => s (300 + k)) n u g 7 op b2) (fun e k => some (e, some (l ++ (3, (lkA (fun k => s (300 + k)) n b)) :: k))) = some rr := hrr2
          rw [h2r, show (fun e k => some (e, some (l ++ (3, (lkA (fun k => s (300 + k)) n b)) :: k))) = (fun (e : Nat) (k : List PStp) => some (e, some (l ++ [(3, (lkA (fun k => s (300 + k)) n b))] ++ k))) by funext e k; rw [List.append_assoc]; rfl, sq_ap] at hr2
          have hr3 := Option.some.inj hr2
          refine bX5_readsAll_42 ?_
          rw [nI_1]
          refine ih b2 (i + 1) (acc ++ l ++ [(3, 38)]) im3 r2 (by omega) z2 (by omega) (by rw [← el2, ← el]; omega) (hP.k hm4 h33 h31) h54 hm4 (by omega) h2r ?_
          rw [← hap, ← hr3, ap_ap, List.append_assoc]
          rw [show lkA (fun k => s (300 + k)) n b = 38 by rcases h with ⟨g, e⟩ | ⟨g, e⟩ | ⟨g, _⟩ | ⟨g, _⟩ | ⟨g, _⟩ <;> first | exact e | exact absurd g (by decide)]
      have e60 : 60 ≤ i → ¬ isOp 1 (lkA (fun k => s (300 + k)) n b) := by
        intro hi h
        have hlt : b < n := lkA_lt (isOp_s h).2
        omega
      refine bX5_readsAll_8 (fun c60 => ?_) (fun _ => ?_)
      · have h60 := ge_i (a := 60) (by omega) (by omega) c60
        exact bX5_readsAll_49 (Or.inr rfl) (stop (e60 h60) 1 rfl)
      refine bX5_readsAll_14 (fun c0 => absurd c0 (by decide)) (fun _ => ?_)
      refine bX5_readsAll_18 (by rw [hD3]; exact pX5_takes (d := D3) hP1 h2 hn g2) ?_
      rintro x im2 (⟨rfl, e, rfl⟩ | ⟨rfl, e, rfl⟩)
      · refine bX5_readsAll_24 (fun c0 => absurd c0 (by decide)) (fun _ => ?_)
        exact go (Or.inr (Or.inl ⟨rfl, e⟩))
      · refine bX5_readsAll_24 (fun _ => ?_) (fun c0 => absurd rfl c0)
        exact bX5_readsAll_49 (Or.inr rfl) (stop (fun g => e (by rcases g with ⟨g, e⟩ | ⟨g, e⟩ | ⟨g, _⟩ | ⟨g, _⟩ | ⟨g, _⟩ <;> first | exact e | exact absurd g (by decide))) 1 rfl)
  refine bX5_readsAll_0 (hC f (Nat.le_refl f) op a len D im (b, o) ho ha hl (by omega) hP (by rw [hw1]; omega) h1) ?_
  rintro x im1 ⟨hm1, h3, hx⟩
  refine bX5_readsAll_5 ?_
  cases o with
  | none =>
    obtain ⟨rfl, hcc⟩ := hx
    exact fails b im1 0 hm1 h3 hcc (Option.some.inj hr).symm
  | some l =>
    obtain ⟨rfl, hP1, hw2⟩ := hx
    obtain ⟨q1, q2, _⟩ := K3 l rfl
    obtain ⟨r2, h2r, _, _, _⟩ := prs_ok (fun k => s (300 + k)) n u f 7 op b (by omega) K2 (by rw [hw6]; have := q2 (by omega); omega)
    have hr2 : sqR (prs (fun k => s (300 + k)) n u f 7 op b) (fun e k => some (e, some (l ++ k))) = some r := hr
    rw [h2r, sq_ap] at hr2
    have hr3 := Option.some.inj hr2
    exact loop f b 0 l im1 r2 (Nat.le_refl f) K2 (by omega) (by omega) (hP.k hm1 h3 hP1) hw2 hm1 (by have := q2 (by omega); omega) h2r hr3
theorem pX5_readsSum {bo : Bool} {s : Nat → Int32} {n u f : Nat} (h2 : s 2 = nI n) (hn : n ≤ 60) (hC : ∀ g, g ≤ f → PCc bo mX5_readsProduct s n u g 4) : PCc bo mX5_readsSum s n u (f + 1) 3 := by
  intro op a len D im r ho ha hl hD hP hf hr
  have hw : wgt 3 = 3 := rfl
  have hw1 : wgt 4 = 2 := rfl
  have hw6 : wgt 9 = 1 := rfl
  rw [hw] at hf
  rw [prs_l (by omega)] at hr
  obtain ⟨⟨b, o⟩, h1, K1, K2, K3⟩ := prs_ok (fun k => s (300 + k)) n u f 4 op a (by omega) ha (by rw [hw1]; omega)
  rw [h1] at hr
  simp only at K1 K2 K3
  obtain ⟨D, rfl⟩ : ∃ E, D = E + 1 := ⟨D - 1, by omega⟩
  obtain ⟨D3, hD3⟩ : ∃ E, D = E + 2 := ⟨D - 2, by omega⟩
  refine SpI.of [some (.ref 28), some (.int (nI op)), none, none, none] rfl (by decide) rfl (fun Q hQ => ?_)
  have fails : ∀ (b : Nat) (im1 : XI) (i : Int32), kR im im1 → im1 28 3 = nI b → (∃ c : Nat, c ≤ 60 ∧ im1 29 1 = nI c) → r = (b, none) → V mX5_readsSum (D + 1) (0, 0) 8 [some (.ref 28), some (.int (nI op)), some (.int 0), some (.int i), none] [] (SC bo) im1 Q := by
    intro b im1 i hk h3 hc hrr
    have e49 : V mX5_readsSum (D + 1) (0, 0) 73 [some (.ref 28), some (.int (nI op)), some (.int 0), some (.int i), none] [] (SC bo) im1 Q := by
      refine bX5_readsSum_73 (Or.inl rfl) ?_
      rw [hrr] at hQ
      exact hQ _ _ ⟨hk, h3, rfl, hc⟩
    exact bX5_readsSum_8 (fun _ => e49) (fun _ => bX5_readsSum_14 (fun _ => e49) (fun c => absurd rfl c))
  have loop : ∀ (g b i : Nat) (acc : List PStp) (im1 : XI) (rr : PRes), g ≤ f → b ≤ n → i ≤ b → len + acc.length ≤ b → PsC s u b (len + acc.length) im1 → im1 30 = wrC u (im 30) len acc → kR im im1 → 12 * (n - b) + 1 < g → prs (fun k => s (300 + k)) n u g 9 op b = some rr → apR acc rr = r → V mX5_readsSum (D + 1) (0, 0) 8 [some (.ref 28), some (.int (nI op)), some (.int 1), some (.int (nI i)), none] [] (SC bo) im1 Q := by
    intro g
    induction g with
    | zero => intro b i acc im1 rr g1 g2 gi g3 g4 g5 g6 g7; omega
    | succ g ih =>
      intro b i acc im1 rr g1 g2 gi g3 hP1 h5 hm1 g7 hrr hap
      have hrr2 : (if isOp 3 (lkA (fun k => s (300 + k)) n b) then sqR (prs (fun k => s (300 + k)) n u g 4 op (b + 1)) (fun b2 l => if 9 = 8 then some (b2, some (l ++ [(3, (lkA (fun k => s (300 + k)) n b))])) else sqR (prs (fun k => s (300 + k)) n u g 9 op b2) (fun e k => some (e, some (l ++ (3, (lkA (fun k => s (300 + k)) n b)) :: k)))) else some (b, some [])) = some rr := by
        have := hrr
        rw [prs_t (by omega)] at this
        exact this
      have stop : ¬ isOp 3 (lkA (fun k => s (300 + k)) n b) → ∀ (x : Int32), x = 1 → Q (some (.int x)) (SC bo) im1 := by
        intro h x hx
        rw [if_neg h] at hrr2
        obtain rfl := Option.some.inj hrr2
        have e : r = (b, some acc) := by
          rw [← hap]
          show (b, some (acc ++ [])) = _
          rw [List.append_nil]
        rw [e] at hQ
        exact hQ _ _ ⟨hm1, hP1.1, hx, hP1.2.2.1, h5⟩
      have go : isOp 3 (lkA (fun k => s (300 + k)) n b) → V mX5_readsSum (D + 1) (0, 0) 40 [some (.ref 28), some (.int (nI op)), some (.int 1), some (.int (nI i)), some (.int (lkA (fun k => s (300 + k)) n b))] [] (SC bo) im1 Q := by
        intro h
        rw [if_pos h] at hrr2
        have hlt : b < n := lkA_lt (isOp_s h).2
        obtain ⟨⟨b2, o2⟩, hr1, z1, z2, z3⟩ := prs_ok (fun k => s (300 + k)) n u g 4 op (b + 1) (by omega) hlt (by rw [hw1]; omega)
        rw [hr1] at hrr2
        simp only at z1 z2 z3
        refine bX5_readsSum_40 (by rw [hP1.1, nI_1]; exact hC g (by omega) op (b + 1) (len + acc.length) D _ (b2, o2) ho hlt (by omega) (by omega) hP1.up (by rw [hw1]; omega) hr1) ?_
        rintro x im2 ⟨hm2, h23, hx⟩
        have hm3 : kR im im2 := (hm1.up (by omega)).tr hm2
        cases o2 with
        | none =>
          obtain ⟨rfl, c60, hc1, hc2⟩ := hx
          obtain rfl := Option.some.inj hrr2
          refine bX5_readsSum_55 (addTok2 hc2 hc1) ?_
          rintro _ im3 ⟨hk3, h33, hcc⟩
          refine bX5_readsSum_66 ?_
          exact fails b2 im3 _ (hm3.tr hk3) (h33.trans h23) hcc hap.symm
        | some l =>
          obtain ⟨rfl, hP2, hw2⟩ := hx
          obtain ⟨q1, q2, _⟩ := z3 l rfl
          rw [xup_o (by decide), h5, ← wrC_app] at hw2
          have el : len + acc.length + l.length = len + (acc ++ l).length := by rw [List.length_append]; omega
          rw [el] at hP2
          refine bX5_readsSum_55 (addTok hP2 (by omega)) ?_
          rintro _ im3 him3
          have el2 : len + (acc ++ l).length + 1 = len + (acc ++ l ++ [(3, lkA (fun k => s (300 + k)) n b)]).length := by rw [List.length_append (bs := [_])]; rfl
          have h54 : im3 30 = wrC u (im 30) len (acc ++ l ++ [(3, lkA (fun k => s (300 + k)) n b)]) := by rw [him3, xup_o (by decide), xup_s, hw2, wrC_app (k := [_])]; rfl
          have hm4 : kR im im3 := by rw [him3]; exact (hm3.up (by omega)).up (by omega)
          have h33 : im3 28 3 = nI b2 := by rw [him3, xup_o (by decide), xup_o (by decide)]; exact h23
          have h31 : im3 29 1 = nI (len + (acc ++ l ++ [(3, lkA (fun k => s (300 + k)) n b)]).length) := by rw [him3, xup_at, el2]
          obtain ⟨r2, h2r, _, _, _⟩ := prs_ok (fun k => s (300 + k)) n u g 9 op b2 (by omega) z2 (by rw [hw6]; omega)
          have hr2 : sqR (prs (fun k => s (300 + k)) n u g 9 op b2) (fun e k => some (e, some (l ++ (3, (lkA (fun k => s (300 + k)) n b)) :: k))) = some rr := hrr2
          rw [h2r, show (fun e k => some (e, some (l ++ (3, (lkA (fun k => s (300 + k)) n b)) :: k))) = (fun (e : Nat) (k : List PStp) => some (e, some (l ++ [(3, (lkA (fun k => s (300 + k)) n b))] ++ k))) by funext e k; rw [List.append_assoc]; rfl, sq_ap] at hr2
          have hr3 := Option.some.inj hr2
          refine bX5_readsSum_66 ?_
          rw [nI_1]
          refine ih b2 (i + 1) (acc ++ l ++ [(3, lkA (fun k => s (300 + k)) n b)]) im3 r2 (by omega) z2 (by omega) (by rw [← el2, ← el]; omega) (hP.k hm4 h33 h31) h54 hm4 (by omega) h2r ?_
          rw [← hap, ← hr3, ap_ap, List.append_assoc]
      have e60 : 60 ≤ i → ¬ isOp 3 (lkA (fun k => s (300 + k)) n b) := by
        intro hi h
        have hlt : b < n := lkA_lt (isOp_s h).2
        omega
      refine bX5_readsSum_8 (fun c60 => ?_) (fun _ => ?_)
      · have h60 := ge_i (a := 60) (by omega) (by omega) c60
        exact bX5_readsSum_73 (Or.inr rfl) (stop (e60 h60) 1 rfl)
      refine bX5_readsSum_14 (fun c0 => absurd c0 (by decide)) (fun _ => ?_)
      refine bX5_readsSum_18 (by rw [hD3]; exact pX5_next (d := D3 + 1) hP1 h2 hn g2) ?_
      rintro _ _ ⟨rfl, rfl⟩
      refine bX5_readsSum_22 (fun h => (go (Or.inr (Or.inr (Or.inr (Or.inl ⟨rfl, Or.inl h⟩)))))) (fun d1 => ?_)
      refine bX5_readsSum_31 (fun h => (go (Or.inr (Or.inr (Or.inr (Or.inl ⟨rfl, Or.inr h⟩)))))) (fun d2 => ?_)
      exact bX5_readsSum_38 (stop (fun g => by rcases g with ⟨g, _⟩ | ⟨g, _⟩ | ⟨g, _⟩ | ⟨_, e | e⟩ | ⟨g, _⟩ <;> first | exact d1 e | exact d2 e | exact absurd g (by decide)) 1 rfl)
  refine bX5_readsSum_0 (hC f (Nat.le_refl f) op a len D im (b, o) ho ha hl (by omega) hP (by rw [hw1]; omega) h1) ?_
  rintro x im1 ⟨hm1, h3, hx⟩
  refine bX5_readsSum_5 ?_
  cases o with
  | none =>
    obtain ⟨rfl, hcc⟩ := hx
    exact fails b im1 0 hm1 h3 hcc (Option.some.inj hr).symm
  | some l =>
    obtain ⟨rfl, hP1, hw2⟩ := hx
    obtain ⟨q1, q2, _⟩ := K3 l rfl
    obtain ⟨r2, h2r, _, _, _⟩ := prs_ok (fun k => s (300 + k)) n u f 9 op b (by omega) K2 (by rw [hw6]; have := q2 (by omega); omega)
    have hr2 : sqR (prs (fun k => s (300 + k)) n u f 9 op b) (fun e k => some (e, some (l ++ k))) = some r := hr
    rw [h2r, sq_ap] at hr2
    have hr3 := Option.some.inj hr2
    exact loop f b 0 l im1 r2 (Nat.le_refl f) K2 (by omega) (by omega) (hP.k hm1 h3 hP1) hw2 hm1 (by have := q2 (by omega); omega) h2r hr3
theorem pX5_readsProduct {bo : Bool} {s : Nat → Int32} {n u f : Nat} (h2 : s 2 = nI n) (hn : n ≤ 60) (hC : ∀ g, g ≤ f → PCc bo mX5_readsFactor s n u g 5) : PCc bo mX5_readsProduct s n u (f + 1) 4 := by
  intro op a len D im r ho ha hl hD hP hf hr
  have hw : wgt 4 = 2 := rfl
  have hw1 : wgt 5 = 1 := rfl
  have hw6 : wgt 10 = 1 := rfl
  rw [hw] at hf
  rw [prs_l (by omega)] at hr
  obtain ⟨⟨b, o⟩, h1, K1, K2, K3⟩ := prs_ok (fun k => s (300 + k)) n u f 5 op a (by omega) ha (by rw [hw1]; omega)
  rw [h1] at hr
  simp only at K1 K2 K3
  obtain ⟨D, rfl⟩ : ∃ E, D = E + 1 := ⟨D - 1, by omega⟩
  obtain ⟨D3, hD3⟩ : ∃ E, D = E + 2 := ⟨D - 2, by omega⟩
  refine SpI.of [some (.ref 28), some (.int (nI op)), none, none, none] rfl (by decide) rfl (fun Q hQ => ?_)
  have fails : ∀ (b : Nat) (im1 : XI) (i : Int32), kR im im1 → im1 28 3 = nI b → (∃ c : Nat, c ≤ 60 ∧ im1 29 1 = nI c) → r = (b, none) → V mX5_readsProduct (D + 1) (0, 0) 8 [some (.ref 28), some (.int (nI op)), some (.int 0), some (.int i), none] [] (SC bo) im1 Q := by
    intro b im1 i hk h3 hc hrr
    have e49 : V mX5_readsProduct (D + 1) (0, 0) 80 [some (.ref 28), some (.int (nI op)), some (.int 0), some (.int i), none] [] (SC bo) im1 Q := by
      refine bX5_readsProduct_80 (Or.inl rfl) ?_
      rw [hrr] at hQ
      exact hQ _ _ ⟨hk, h3, rfl, hc⟩
    exact bX5_readsProduct_8 (fun _ => e49) (fun _ => bX5_readsProduct_14 (fun _ => e49) (fun c => absurd rfl c))
  have loop : ∀ (g b i : Nat) (acc : List PStp) (im1 : XI) (rr : PRes), g ≤ f → b ≤ n → i ≤ b → len + acc.length ≤ b → PsC s u b (len + acc.length) im1 → im1 30 = wrC u (im 30) len acc → kR im im1 → 12 * (n - b) + 1 < g → prs (fun k => s (300 + k)) n u g 10 op b = some rr → apR acc rr = r → V mX5_readsProduct (D + 1) (0, 0) 8 [some (.ref 28), some (.int (nI op)), some (.int 1), some (.int (nI i)), none] [] (SC bo) im1 Q := by
    intro g
    induction g with
    | zero => intro b i acc im1 rr g1 g2 gi g3 g4 g5 g6 g7; omega
    | succ g ih =>
      intro b i acc im1 rr g1 g2 gi g3 hP1 h5 hm1 g7 hrr hap
      have hrr2 : (if isOp 4 (lkA (fun k => s (300 + k)) n b) then sqR (prs (fun k => s (300 + k)) n u g 5 op (b + 1)) (fun b2 l => if 10 = 8 then some (b2, some (l ++ [(3, (lkA (fun k => s (300 + k)) n b))])) else sqR (prs (fun k => s (300 + k)) n u g 10 op b2) (fun e k => some (e, some (l ++ (3, (lkA (fun k => s (300 + k)) n b)) :: k)))) else some (b, some [])) = some rr := by
        have := hrr
        rw [prs_t (by omega)] at this
        exact this
      have stop : ¬ isOp 4 (lkA (fun k => s (300 + k)) n b) → ∀ (x : Int32), x = 1 → Q (some (.int x)) (SC bo) im1 := by
        intro h x hx
        rw [if_neg h] at hrr2
        obtain rfl := Option.some.inj hrr2
        have e : r = (b, some acc) := by
          rw [← hap]
          show (b, some (acc ++ [])) = _
          rw [List.append_nil]
        rw [e] at hQ
        exact hQ _ _ ⟨hm1, hP1.1, hx, hP1.2.2.1, h5⟩
      have go : isOp 4 (lkA (fun k => s (300 + k)) n b) → V mX5_readsProduct (D + 1) (0, 0) 47 [some (.ref 28), some (.int (nI op)), some (.int 1), some (.int (nI i)), some (.int (lkA (fun k => s (300 + k)) n b))] [] (SC bo) im1 Q := by
        intro h
        rw [if_pos h] at hrr2
        have hlt : b < n := lkA_lt (isOp_s h).2
        obtain ⟨⟨b2, o2⟩, hr1, z1, z2, z3⟩ := prs_ok (fun k => s (300 + k)) n u g 5 op (b + 1) (by omega) hlt (by rw [hw1]; omega)
        rw [hr1] at hrr2
        simp only at z1 z2 z3
        refine bX5_readsProduct_47 (by rw [hP1.1, nI_1]; exact hC g (by omega) op (b + 1) (len + acc.length) D _ (b2, o2) ho hlt (by omega) (by omega) hP1.up (by rw [hw1]; omega) hr1) ?_
        rintro x im2 ⟨hm2, h23, hx⟩
        have hm3 : kR im im2 := (hm1.up (by omega)).tr hm2
        cases o2 with
        | none =>
          obtain ⟨rfl, c60, hc1, hc2⟩ := hx
          obtain rfl := Option.some.inj hrr2
          refine bX5_readsProduct_62 (addTok2 hc2 hc1) ?_
          rintro _ im3 ⟨hk3, h33, hcc⟩
          refine bX5_readsProduct_73 ?_
          exact fails b2 im3 _ (hm3.tr hk3) (h33.trans h23) hcc hap.symm
        | some l =>
          obtain ⟨rfl, hP2, hw2⟩ := hx
          obtain ⟨q1, q2, _⟩ := z3 l rfl
          rw [xup_o (by decide), h5, ← wrC_app] at hw2
          have el : len + acc.length + l.length = len + (acc ++ l).length := by rw [List.length_append]; omega
          rw [el] at hP2
          refine bX5_readsProduct_62 (addTok hP2 (by omega)) ?_
          rintro _ im3 him3
          have el2 : len + (acc ++ l).length + 1 = len + (acc ++ l ++ [(3, lkA (fun k => s (300 + k)) n b)]).length := by rw [List.length_append (bs := [_])]; rfl
          have h54 : im3 30 = wrC u (im 30) len (acc ++ l ++ [(3, lkA (fun k => s (300 + k)) n b)]) := by rw [him3, xup_o (by decide), xup_s, hw2, wrC_app (k := [_])]; rfl
          have hm4 : kR im im3 := by rw [him3]; exact (hm3.up (by omega)).up (by omega)
          have h33 : im3 28 3 = nI b2 := by rw [him3, xup_o (by decide), xup_o (by decide)]; exact h23
          have h31 : im3 29 1 = nI (len + (acc ++ l ++ [(3, lkA (fun k => s (300 + k)) n b)]).length) := by rw [him3, xup_at, el2]
          obtain ⟨r2, h2r, _, _, _⟩ := prs_ok (fun k => s (300 + k)) n u g 10 op b2 (by omega) z2 (by rw [hw6]; omega)
          have hr2 : sqR (prs (fun k => s (300 + k)) n u g 10 op b2) (fun e k => some (e, some (l ++ (3, (lkA (fun k => s (300 + k)) n b)) :: k))) = some rr := hrr2
          rw [h2r, show (fun e k => some (e, some (l ++ (3, (lkA (fun k => s (300 + k)) n b)) :: k))) = (fun (e : Nat) (k : List PStp) => some (e, some (l ++ [(3, (lkA (fun k => s (300 + k)) n b))] ++ k))) by funext e k; rw [List.append_assoc]; rfl, sq_ap] at hr2
          have hr3 := Option.some.inj hr2
          refine bX5_readsProduct_73 ?_
          rw [nI_1]
          refine ih b2 (i + 1) (acc ++ l ++ [(3, lkA (fun k => s (300 + k)) n b)]) im3 r2 (by omega) z2 (by omega) (by rw [← el2, ← el]; omega) (hP.k hm4 h33 h31) h54 hm4 (by omega) h2r ?_
          rw [← hap, ← hr3, ap_ap, List.append_assoc]
      have e60 : 60 ≤ i → ¬ isOp 4 (lkA (fun k => s (300 + k)) n b) := by
        intro hi h
        have hlt : b < n := lkA_lt (isOp_s h).2
        omega
      refine bX5_readsProduct_8 (fun c60 => ?_) (fun _ => ?_)
      · have h60 := ge_i (a := 60) (by omega) (by omega) c60
        exact bX5_readsProduct_80 (Or.inr rfl) (stop (e60 h60) 1 rfl)
      refine bX5_readsProduct_14 (fun c0 => absurd c0 (by decide)) (fun _ => ?_)
      refine bX5_readsProduct_18 (by rw [hD3]; exact pX5_next (d := D3 + 1) hP1 h2 hn g2) ?_
      rintro _ _ ⟨rfl, rfl⟩
      refine bX5_readsProduct_22 (fun h => (go (Or.inr (Or.inr (Or.inr (Or.inr ⟨rfl, Or.inl h⟩)))))) (fun d1 => ?_)
      refine bX5_readsProduct_31 (fun h => (go (Or.inr (Or.inr (Or.inr (Or.inr ⟨rfl, Or.inr (Or.inl h)⟩)))))) (fun d2 => ?_)
      refine bX5_readsProduct_38 (fun h => (go (Or.inr (Or.inr (Or.inr (Or.inr ⟨rfl, Or.inr (Or.inr h)⟩)))))) (fun d3 => ?_)
      exact bX5_readsProduct_45 (stop (fun g => by rcases g with ⟨g, _⟩ | ⟨g, _⟩ | ⟨g, _⟩ | ⟨g, _⟩ | ⟨_, e | e | e⟩ <;> first | exact d1 e | exact d2 e | exact d3 e | exact absurd g (by decide)) 1 rfl)
  refine bX5_readsProduct_0 (hC f (Nat.le_refl f) op a len D im (b, o) ho ha hl (by omega) hP (by rw [hw1]; omega) h1) ?_
  rintro x im1 ⟨hm1, h3, hx⟩
  refine bX5_readsProduct_5 ?_
  cases o with
  | none =>
    obtain ⟨rfl, hcc⟩ := hx
    exact fails b im1 0 hm1 h3 hcc (Option.some.inj hr).symm
  | some l =>
    obtain ⟨rfl, hP1, hw2⟩ := hx
    obtain ⟨q1, q2, _⟩ := K3 l rfl
    obtain ⟨r2, h2r, _, _, _⟩ := prs_ok (fun k => s (300 + k)) n u f 10 op b (by omega) K2 (by rw [hw6]; have := q2 (by omega); omega)
    have hr2 : sqR (prs (fun k => s (300 + k)) n u f 10 op b) (fun e k => some (e, some (l ++ k))) = some r := hr
    rw [h2r, sq_ap] at hr2
    have hr3 := Option.some.inj hr2
    exact loop f b 0 l im1 r2 (Nat.le_refl f) K2 (by omega) (by omega) (hP.k hm1 h3 hP1) hw2 hm1 (by have := q2 (by omega); omega) h2r hr3

def apR (l : List PStp) (r : PRes) : PRes := (r.1, r.2.map (fun k => l ++ k))
theorem sq_ap {l : List PStp} {r : PRes} : sqR (some r) (fun e k => some (e, some (l ++ k))) = some (apR l r) := by
  obtain ⟨a, o⟩ := r
  cases o <;> rfl
theorem ap_ap {l k : List PStp} {r : PRes} : apR l (apR k r) = apR (l ++ k) r := by
  obtain ⟨a, o⟩ := r
  cases o with
  | none => rfl
  | some m =>
    show (a, some (l ++ (k ++ m))) = (a, some (l ++ k ++ m))
    rw [List.append_assoc]
def PsM (s : Nat → Int32) (u a op len : Nat) (im : XI) : Prop := im 1 = s ∧ im 0 5 = nI a ∧ im 0 6 = nI op ∧ im 0 7 = nI len ∧ im 0 8 = nI u
theorem PsM.up {s : Nat → Int32} {u a op len : Nat} {im : XI} (h : PsM s u a op len im) : PsM s u (a + 1) op len (xup im 0 5 (im 0 5 + 1)) := by
  obtain ⟨a1, a2, a3, a4, a5⟩ := h
  exact ⟨(xup_o (by decide)).trans a1, by rw [xup_at, a2, nI_1], (xup_ne (by decide)).trans a3, (xup_ne (by decide)).trans a4, (xup_ne (by decide)).trans a5⟩
theorem mg0 {im im1 : XI} {k : Nat} {v : Int32} (h : mkL im im1) (hk : k = 5 ∨ k = 6 ∨ k = 7 ∨ k = 8) : mkL im (xup im1 0 k v) := h.up (by rcases hk with rfl | rfl | rfl | rfl <;> simp [mgL])
def RP (s : Nat → Int32) (u op len : Nat) (im : XI) (r : PRes) (x : Int32) (im' : XI) : Prop := mkL im im' ∧ match r.2 with
  | none => x = 0 ∧ im' 1 = s ∧ im' 0 5 = nI r.1
  | some l => x = 1 ∧ PsM s u r.1 op (len + l.length) im' ∧ im' 5 = wrS (im 5) len l
def PC (mt : XM) (s : Nat → Int32) (n u f m : Nat) : Prop := ∀ (op a len D : Nat) (im : XI) (r : PRes), op ≤ 5 → a ≤ n → len ≤ a → 6 * (5 - op) + (6 - m) ≤ D → PsM s u a op len im → 12 * (n - a) + wgt m < f → prs (fun k => s (300 + k)) n u f m op a = some r → SpI mt D [.ref 0] SM im (RP s u op len im r)
theorem pX10_look {d : Nat} {im : XI} {s : Nat → Int32} {u a op len n : Nat} (h : PsM s u a op len im) (h2 : s 2 = nI n) (hn : n ≤ 60) (ha : a ≤ n) : SpI mX10_look d [.ref 0] SM im (fun x im' => x = lkA (fun k => s (300 + k)) n a ∧ im = im') := by
  refine SpI.of [some (.ref 0)] rfl (by decide) rfl (fun Q hQ => ?_)
  refine bX10_look_0 (fun c => ?_) (fun c => ?_)
  · rw [h.1, h2, h.2.1] at c
    have := ge_i (by omega) (by omega) c
    refine bX10_look_29 ?_
    refine bX10_look_30 ?_
    exact hQ _ _ ⟨(if_neg (by omega)).symm, rfl⟩
  · rw [h.1, h2, h.2.1] at c
    have := lt_i (by omega) (by omega) c
    refine bX10_look_13 (i1 := 300 + a) (by rw [h.2.1, show (300 : Int32) = nI 300 from rfl, nI_add]) (by omega) ?_
    refine bX10_look_30 ?_
    rw [h.1]
    exact hQ _ _ ⟨(if_pos this).symm, rfl⟩
theorem pX10_isName {d : Nat} {im : XI} {u : Nat} {c : Int32} (h : im 0 8 = nI u) (hu : u < 2) : SpI mX10_isName d [.ref 0, .int c] SM im (fun x im' => x = b2i (isNm u c) ∧ im = im') := by
  refine SpI.of [some (.ref 0), some (.int c)] rfl (by decide) rfl (fun Q hQ => ?_)
  match u, hu with
  | 0, _ =>
    have n0 : nameC 0 0 = 114 := rfl
    have n1 : nameC 0 1 = 115 := rfl
    have n2 : nameC 0 2 = 116 := rfl
    have hz : im 0 8 = 0 := h
    refine bX10_isName_0 (fun c => absurd hz c) (fun _ => ?_)
    refine bX10_isName_8 ?_
    refine bX10_isName_15 (fun c1 => ?_) (fun c1 => ?_)
    · refine bX10_isName_20 (fun c => absurd hz c) (fun _ => ?_)
      have y39 : isNm 0 c → V mX10_isName d (0, 0) 39 [some (.ref 0), some (.int c)] [] SM im Q := by
        intro hh
        refine bX10_isName_39 ?_
        refine bX10_isName_64 (Or.inr rfl) ?_
        exact hQ _ _ ⟨(b2i_t hh).symm, rfl⟩
      refine bX10_isName_27 (fun c2 => y39 (Or.inr (Or.inl c2))) (fun c2 => ?_)
      refine bX10_isName_33 (fun c3 => ?_) (fun c3 => y39 (Or.inr (Or.inr c3)))
      refine bX10_isName_43 ?_
      refine bX10_isName_64 (Or.inl rfl) ?_
      exact hQ _ _ ⟨(b2i_f (fun hh => by rcases hh with hh | hh | hh <;> first | exact c1 hh | exact c1 hh.symm | exact c2 hh | exact c3 hh)).symm, rfl⟩
    · refine bX10_isName_18 ?_
      exact hQ _ _ ⟨(b2i_t (by first | exact Or.inl c1 | exact Or.inl c1.symm)).symm, rfl⟩
  | 1, _ =>
    have n0 : nameC 1 0 = 112 := rfl
    have n1 : nameC 1 1 = 111 := rfl
    have n2 : nameC 1 2 = 108 := rfl
    have hz : ¬ im 0 8 = 0 := by rw [h]; decide
    refine bX10_isName_0 (fun _ => ?_) (fun c => absurd c hz)
    refine bX10_isName_13 ?_
    refine bX10_isName_15 (fun c1 => ?_) (fun c1 => ?_)
    · refine bX10_isName_20 (fun _ => ?_) (fun c => absurd c hz)
      have y59 : isNm 1 c → V mX10_isName d (0, 0) 59 [some (.ref 0), some (.int c)] [] SM im Q := by
        intro hh
        refine bX10_isName_59 ?_
        refine bX10_isName_64 (Or.inr rfl) ?_
        exact hQ _ _ ⟨(b2i_t hh).symm, rfl⟩
      refine bX10_isName_47 (fun c2 => y59 (Or.inr (Or.inl c2))) (fun c2 => ?_)
      refine bX10_isName_53 (fun c3 => ?_) (fun c3 => y59 (Or.inr (Or.inr c3)))
      refine bX10_isName_63 ?_
      refine bX10_isName_64 (Or.inl rfl) ?_
      exact hQ _ _ ⟨(b2i_f (fun hh => by rcases hh with hh | hh | hh <;> first | exact c1 hh | exact c1 hh.symm | exact c2 hh | exact c3 hh)).symm, rfl⟩
    · refine bX10_isName_18 ?_
      exact hQ _ _ ⟨(b2i_t (by first | exact Or.inl c1 | exact Or.inl c1.symm)).symm, rfl⟩
theorem pX10_step1 {d : Nat} {im : XI} {s : Nat → Int32} {u a op len : Nat} {w v : Int32} (h : PsM s u a op len im) (hl : len < 62) : SpV mX10_step1 d [.ref 0, .int w, .int v] SM im (fun im' => PsM s u a op (len + 1) im' ∧ im' 5 = upd (upd (im 5) (2 * len) w) (2 * len + 1) v ∧ mkL im im') := by
  refine SpV.of [some (.ref 0), some (.int w), some (.int v)] rfl (by decide) rfl (fun Q hQ => ?_)
  have e7 : ∀ v, (xup im 5 (2 * len) v) 0 7 = nI len := fun v => (congrFun (xup_o (by decide)) 7).trans h.2.2.2.1
  refine bX10_step1_0 (i1 := 2 * len) (by rw [h.2.2.2.1, show (2 : Int32) = nI 2 from rfl, pk_mul]) (by omega) (i2 := 2 * len + 1) (by rw [e7, show (2 : Int32) = nI 2 from rfl, pk_mul, nI_1]) (by omega) ?_
  refine hQ _ ⟨⟨?_, ?_, ?_, ?_, ?_⟩, ?_, ?_⟩
  · rw [xup_o (by decide), xup_o (by decide), xup_o (by decide)]; exact h.1
  · rw [xup_ne (by decide), xup_o (by decide), xup_o (by decide)]; exact h.2.1
  · rw [xup_ne (by decide), xup_o (by decide), xup_o (by decide)]; exact h.2.2.1
  · rw [xup_at, xup_o (by decide), e7, nI_1]
  · rw [xup_ne (by decide), xup_o (by decide), xup_o (by decide)]; exact h.2.2.2.2
  · rw [xup_o (by decide), xup_s, xup_s]
  · exact mg0 ((mkL.rf.up (by simp [mgL])).up (by simp [mgL])) (by omega)
theorem pX10_opens {d : Nat} {im : XI} {s : Nat → Int32} {u a op len : Nat} (h : PsM s u a op len im) (ho : op ≤ 5) : SpI mX10_opens d [.ref 0] SM im (fun x im' => (op = 5 ∧ x = 0 ∧ im' = im) ∨ (op < 5 ∧ x = 1 ∧ PsM s u (a + 1) (op + 1) len im' ∧ im' 5 = im 5 ∧ mkL im im')) := by
  refine SpI.of [some (.ref 0)] rfl (by decide) rfl (fun Q hQ => ?_)
  refine bX10_opens_0 (fun c => ?_) (fun c => ?_)
  · refine bX10_opens_10 ?_
    rw [h.2.2.1] at c
    have h5 : op < 5 := by
      rcases Nat.lt_or_ge op 5 with h | h
      · exact h
      · obtain rfl : op = 5 := by omega
        exact absurd rfl c
    refine hQ _ _ (Or.inr ⟨h5, rfl, ⟨?_, ?_, ?_, ?_, ?_⟩, ?_, ?_⟩)
    · rw [xup_o (by decide), xup_o (by decide)]; exact h.1
    · rw [xup_at, xup_ne (by decide), h.2.1, nI_1]
    · rw [xup_ne (by decide), xup_at, h.2.2.1, nI_1]
    · rw [xup_ne (by decide), xup_ne (by decide)]; exact h.2.2.2.1
    · rw [xup_ne (by decide), xup_ne (by decide)]; exact h.2.2.2.2
    · rw [xup_o (by decide), xup_o (by decide)]
    · exact mg0 (mg0 mkL.rf (by omega)) (by omega)
  · refine bX10_opens_8 ?_
    rw [h.2.2.1] at c
    have h5 : op = 5 := (nI_eq (by omega) (by omega)).mp (c : nI op = nI 5)
    exact hQ _ _ (Or.inl ⟨h5, rfl, rfl⟩)
theorem pX10_whole {s : Nat → Int32} {n u f : Nat} (h2 : s 2 = nI n) (hn : n ≤ 60) (hC : ∀ g, g ≤ f → PC mX10_both s n u g 1) : PC mX10_whole s n u (f + 1) 0 := by
  intro op a len D im r ho ha hl hD hP hf hr
  have hw : wgt 0 = 6 := rfl
  have hw1 : wgt 1 = 5 := rfl
  have hw6 : wgt 6 = 1 := rfl
  rw [hw] at hf
  rw [prs_l (by omega)] at hr
  obtain ⟨⟨b, o⟩, h1, K1, K2, K3⟩ := prs_ok (fun k => s (300 + k)) n u f 1 op a (by omega) ha (by rw [hw1]; omega)
  rw [h1] at hr
  simp only at K1 K2 K3
  obtain ⟨D, rfl⟩ : ∃ E, D = E + 1 := ⟨D - 1, by omega⟩
  refine SpI.of [some (.ref 0)] rfl (by decide) rfl (fun Q hQ => ?_)
  have loop : ∀ (g b : Nat) (acc : List PStp) (im1 : XI) (rr : PRes), g ≤ f → b ≤ n → len + acc.length ≤ b → PsM s u b op (len + acc.length) im1 → im1 5 = wrS (im 5) len acc → mkL im im1 → 12 * (n - b) + 1 < g → prs (fun k => s (300 + k)) n u g 6 op b = some rr → apR acc rr = r → V mX10_whole (D + 1) (0, 0) 9 [some (.ref 0)] [] SM im1 Q := by
    intro g
    induction g with
    | zero => intro b acc im1 rr g1 g2 g3 g4 g5 g6 g7; omega
    | succ g ih =>
      intro b acc im1 rr g1 g2 g3 hP1 h5 hm1 g7 hrr hap
      have hrr2 : (if isOp 0 (lkA (fun k => s (300 + k)) n b) then sqR (prs (fun k => s (300 + k)) n u g 1 op (b + 1)) (fun b2 l => if 6 = 8 then some (b2, some (l ++ [(3, (lkA (fun k => s (300 + k)) n b))])) else sqR (prs (fun k => s (300 + k)) n u g 6 op b2) (fun e k => some (e, some (l ++ (3, (lkA (fun k => s (300 + k)) n b)) :: k)))) else some (b, some [])) = some rr := by
        have := hrr
        rw [prs_t (by omega)] at this
        exact this
      have stop : ¬ isOp 0 (lkA (fun k => s (300 + k)) n b) → V mX10_whole (D + 1) (0, 0) 47 [some (.ref 0)] [] SM im1 Q := by
        intro h
        rw [if_neg h] at hrr2
        obtain rfl := Option.some.inj hrr2
        have e : r = (b, some acc) := by
          rw [← hap]
          show (b, some (acc ++ [])) = _
          rw [List.append_nil]
        refine bX10_whole_47 ?_
        rw [e] at hQ
        exact hQ _ _ ⟨hm1, rfl, hP1, h5⟩
      have go : isOp 0 (lkA (fun k => s (300 + k)) n b) → V mX10_whole (D + 1) (0, 0) 18 [some (.ref 0)] [] SM im1 Q := by
        intro h
        rw [if_pos h] at hrr2
        have hlt : b < n := lkA_lt (isOp_s h).2
        obtain ⟨⟨b2, o2⟩, hr1, z1, z2, z3⟩ := prs_ok (fun k => s (300 + k)) n u g 1 op (b + 1) (by omega) hlt (by rw [hw1]; omega)
        rw [hr1] at hrr2
        simp only at z1 z2 z3
        refine bX10_whole_18 (hC g (by omega) op (b + 1) (len + acc.length) D _ (b2, o2) ho hlt (by omega) (by omega) hP1.up (by rw [hw1]; omega) hr1) ?_
        rintro x im2 ⟨hm2, hx⟩
        have hm3 : mkL im im2 := (mg0 hm1 (by omega)).tr hm2
        cases o2 with
        | none =>
          obtain ⟨rfl, e1, e5⟩ := hx
          obtain rfl := Option.some.inj hrr2
          refine bX10_whole_32 (fun c => absurd rfl c) (fun _ => ?_)
          refine bX10_whole_35 ?_
          rw [← hap] at hQ
          exact hQ _ _ ⟨hm3, rfl, e1, e5⟩
        | some l =>
          obtain ⟨rfl, hP2, hw2⟩ := hx
          obtain ⟨q1, q2, _⟩ := z3 l rfl
          rw [xup_o (by decide), h5, ← wrS_app] at hw2
          have el : len + acc.length + l.length = len + (acc ++ l).length := by rw [List.length_append]; omega
          rw [el] at hP2
          refine bX10_whole_32 (fun _ => ?_) (fun c => absurd c (by decide))
          refine bX10_whole_37 (pX10_step1 hP2 (by omega)) ?_
          rintro im3 ⟨hP3, h53, hm4⟩
          rw [hw2] at h53
          have el2 : len + (acc ++ l).length + 1 = len + (acc ++ l ++ [(3, 124)]).length := by rw [List.length_append (bs := [_])]; rfl
          rw [el2] at hP3
          have h54 : im3 5 = wrS (im 5) len (acc ++ l ++ [(3, 124)]) := by rw [h53, wrS_app (k := [_])]; rfl
          obtain ⟨r2, h2r, _, _, _⟩ := prs_ok (fun k => s (300 + k)) n u g 6 op b2 (by omega) z2 (by rw [hw6]; omega)
          have hr2 : sqR (prs (fun k => s (300 + k)) n u g 6 op b2) (fun e k => some (e, some (l ++ (3, (lkA (fun k => s (300 + k)) n b)) :: k))) = some rr := hrr2
          rw [h2r, show (fun e k => some (e, some (l ++ (3, (lkA (fun k => s (300 + k)) n b)) :: k))) = (fun (e : Nat) (k : List PStp) => some (e, some (l ++ [(3, (lkA (fun k => s (300 + k)) n b))] ++ k))) by funext e k; rw [List.append_assoc]; rfl, sq_ap] at hr2
          have hr3 := Option.some.inj hr2
          refine bX10_whole_44 ?_
          refine ih b2 (acc ++ l ++ [(3, 124)]) im3 r2 (by omega) z2 (by rw [← el2, ← el]; omega) hP3 h54 (hm3.tr hm4) (by omega) h2r ?_
          rw [← hap, ← hr3, ap_ap, List.append_assoc]
          rw [show lkA (fun k => s (300 + k)) n b = 124 by rcases h with ⟨g, e⟩ | ⟨g, e⟩ | ⟨g, _⟩ | ⟨g, _⟩ | ⟨g, _⟩ <;> first | exact e | exact absurd g (by decide)]
      refine bX10_whole_9 (pX10_look hP1 h2 hn g2) ?_
      rintro _ _ ⟨rfl, rfl⟩
      refine bX10_whole_13 (fun h => stop (fun g => h (by rcases g with ⟨g, e⟩ | ⟨g, e⟩ | ⟨g, _⟩ | ⟨g, _⟩ | ⟨g, _⟩ <;> first | exact e | exact absurd g (by decide)))) (fun h => go (Or.inl ⟨rfl, h⟩))
  refine bX10_whole_0 (hC f (Nat.le_refl f) op a len D im (b, o) ho ha hl (by omega) hP (by rw [hw1]; omega) h1) ?_
  rintro x im1 ⟨hm1, hx⟩
  cases o with
  | none =>
    obtain ⟨rfl, e1, e5⟩ := hx
    obtain rfl := Option.some.inj hr
    refine bX10_whole_4 (fun c => absurd rfl c) (fun _ => ?_)
    refine bX10_whole_7 ?_
    exact hQ _ _ ⟨hm1, rfl, e1, e5⟩
  | some l =>
    obtain ⟨rfl, hP1, hw2⟩ := hx
    obtain ⟨q1, q2, _⟩ := K3 l rfl
    refine bX10_whole_4 (fun _ => ?_) (fun c => absurd c (by decide))
    obtain ⟨r2, h2r, _, _, _⟩ := prs_ok (fun k => s (300 + k)) n u f 6 op b (by omega) K2 (by rw [hw6]; have := q2 (by omega); omega)
    have hr2 : sqR (prs (fun k => s (300 + k)) n u f 6 op b) (fun e k => some (e, some (l ++ k))) = some r := hr
    rw [h2r, sq_ap] at hr2
    have hr3 := Option.some.inj hr2
    exact loop f b l im1 r2 (Nat.le_refl f) K2 (by omega) hP1 hw2 hm1 (by have := q2 (by omega); omega) h2r hr3
theorem pX10_both {s : Nat → Int32} {n u f : Nat} (h2 : s 2 = nI n) (hn : n ≤ 60) (hC : ∀ g, g ≤ f → PC mX10_compared s n u g 2) : PC mX10_both s n u (f + 1) 1 := by
  intro op a len D im r ho ha hl hD hP hf hr
  have hw : wgt 1 = 5 := rfl
  have hw1 : wgt 2 = 4 := rfl
  have hw6 : wgt 7 = 1 := rfl
  rw [hw] at hf
  rw [prs_l (by omega)] at hr
  obtain ⟨⟨b, o⟩, h1, K1, K2, K3⟩ := prs_ok (fun k => s (300 + k)) n u f 2 op a (by omega) ha (by rw [hw1]; omega)
  rw [h1] at hr
  simp only at K1 K2 K3
  obtain ⟨D, rfl⟩ : ∃ E, D = E + 1 := ⟨D - 1, by omega⟩
  refine SpI.of [some (.ref 0)] rfl (by decide) rfl (fun Q hQ => ?_)
  have loop : ∀ (g b : Nat) (acc : List PStp) (im1 : XI) (rr : PRes), g ≤ f → b ≤ n → len + acc.length ≤ b → PsM s u b op (len + acc.length) im1 → im1 5 = wrS (im 5) len acc → mkL im im1 → 12 * (n - b) + 1 < g → prs (fun k => s (300 + k)) n u g 7 op b = some rr → apR acc rr = r → V mX10_both (D + 1) (0, 0) 9 [some (.ref 0)] [] SM im1 Q := by
    intro g
    induction g with
    | zero => intro b acc im1 rr g1 g2 g3 g4 g5 g6 g7; omega
    | succ g ih =>
      intro b acc im1 rr g1 g2 g3 hP1 h5 hm1 g7 hrr hap
      have hrr2 : (if isOp 1 (lkA (fun k => s (300 + k)) n b) then sqR (prs (fun k => s (300 + k)) n u g 2 op (b + 1)) (fun b2 l => if 7 = 8 then some (b2, some (l ++ [(3, (lkA (fun k => s (300 + k)) n b))])) else sqR (prs (fun k => s (300 + k)) n u g 7 op b2) (fun e k => some (e, some (l ++ (3, (lkA (fun k => s (300 + k)) n b)) :: k)))) else some (b, some [])) = some rr := by
        have := hrr
        rw [prs_t (by omega)] at this
        exact this
      have stop : ¬ isOp 1 (lkA (fun k => s (300 + k)) n b) → V mX10_both (D + 1) (0, 0) 47 [some (.ref 0)] [] SM im1 Q := by
        intro h
        rw [if_neg h] at hrr2
        obtain rfl := Option.some.inj hrr2
        have e : r = (b, some acc) := by
          rw [← hap]
          show (b, some (acc ++ [])) = _
          rw [List.append_nil]
        refine bX10_both_47 ?_
        rw [e] at hQ
        exact hQ _ _ ⟨hm1, rfl, hP1, h5⟩
      have go : isOp 1 (lkA (fun k => s (300 + k)) n b) → V mX10_both (D + 1) (0, 0) 18 [some (.ref 0)] [] SM im1 Q := by
        intro h
        rw [if_pos h] at hrr2
        have hlt : b < n := lkA_lt (isOp_s h).2
        obtain ⟨⟨b2, o2⟩, hr1, z1, z2, z3⟩ := prs_ok (fun k => s (300 + k)) n u g 2 op (b + 1) (by omega) hlt (by rw [hw1]; omega)
        rw [hr1] at hrr2
        simp only at z1 z2 z3
        refine bX10_both_18 (hC g (by omega) op (b + 1) (len + acc.length) D _ (b2, o2) ho hlt (by omega) (by omega) hP1.up (by rw [hw1]; omega) hr1) ?_
        rintro x im2 ⟨hm2, hx⟩
        have hm3 : mkL im im2 := (mg0 hm1 (by omega)).tr hm2
        cases o2 with
        | none =>
          obtain ⟨rfl, e1, e5⟩ := hx
          obtain rfl := Option.some.inj hrr2
          refine bX10_both_32 (fun c => absurd rfl c) (fun _ => ?_)
          refine bX10_both_35 ?_
          rw [← hap] at hQ
          exact hQ _ _ ⟨hm3, rfl, e1, e5⟩
        | some l =>
          obtain ⟨rfl, hP2, hw2⟩ := hx
          obtain ⟨q1, q2, _⟩ := z3 l rfl
          rw [xup_o (by decide), h5, ← wrS_app] at hw2
          have el : len + acc.length + l.length = len + (acc ++ l).length := by rw [List.length_append]; omega
          rw [el] at hP2
          refine bX10_both_32 (fun _ => ?_) (fun c => absurd c (by decide))
          refine bX10_both_37 (pX10_step1 hP2 (by omega)) ?_
          rintro im3 ⟨hP3, h53, hm4⟩
          rw [hw2] at h53
          have el2 : len + (acc ++ l).length + 1 = len + (acc ++ l ++ [(3, 38)]).length := by rw [List.length_append (bs := [_])]; rfl
          rw [el2] at hP3
          have h54 : im3 5 = wrS (im 5) len (acc ++ l ++ [(3, 38)]) := by rw [h53, wrS_app (k := [_])]; rfl
          obtain ⟨r2, h2r, _, _, _⟩ := prs_ok (fun k => s (300 + k)) n u g 7 op b2 (by omega) z2 (by rw [hw6]; omega)
          have hr2 : sqR (prs (fun k => s (300 + k)) n u g 7 op b2) (fun e k => some (e, some (l ++ (3, (lkA (fun k => s (300 + k)) n b)) :: k))) = some rr := hrr2
          rw [h2r, show (fun e k => some (e, some (l ++ (3, (lkA (fun k => s (300 + k)) n b)) :: k))) = (fun (e : Nat) (k : List PStp) => some (e, some (l ++ [(3, (lkA (fun k => s (300 + k)) n b))] ++ k))) by funext e k; rw [List.append_assoc]; rfl, sq_ap] at hr2
          have hr3 := Option.some.inj hr2
          refine bX10_both_44 ?_
          refine ih b2 (acc ++ l ++ [(3, 38)]) im3 r2 (by omega) z2 (by rw [← el2, ← el]; omega) hP3 h54 (hm3.tr hm4) (by omega) h2r ?_
          rw [← hap, ← hr3, ap_ap, List.append_assoc]
          rw [show lkA (fun k => s (300 + k)) n b = 38 by rcases h with ⟨g, e⟩ | ⟨g, e⟩ | ⟨g, _⟩ | ⟨g, _⟩ | ⟨g, _⟩ <;> first | exact e | exact absurd g (by decide)]
      refine bX10_both_9 (pX10_look hP1 h2 hn g2) ?_
      rintro _ _ ⟨rfl, rfl⟩
      refine bX10_both_13 (fun h => stop (fun g => h (by rcases g with ⟨g, e⟩ | ⟨g, e⟩ | ⟨g, _⟩ | ⟨g, _⟩ | ⟨g, _⟩ <;> first | exact e | exact absurd g (by decide)))) (fun h => go (Or.inr (Or.inl ⟨rfl, h⟩)))
  refine bX10_both_0 (hC f (Nat.le_refl f) op a len D im (b, o) ho ha hl (by omega) hP (by rw [hw1]; omega) h1) ?_
  rintro x im1 ⟨hm1, hx⟩
  cases o with
  | none =>
    obtain ⟨rfl, e1, e5⟩ := hx
    obtain rfl := Option.some.inj hr
    refine bX10_both_4 (fun c => absurd rfl c) (fun _ => ?_)
    refine bX10_both_7 ?_
    exact hQ _ _ ⟨hm1, rfl, e1, e5⟩
  | some l =>
    obtain ⟨rfl, hP1, hw2⟩ := hx
    obtain ⟨q1, q2, _⟩ := K3 l rfl
    refine bX10_both_4 (fun _ => ?_) (fun c => absurd c (by decide))
    obtain ⟨r2, h2r, _, _, _⟩ := prs_ok (fun k => s (300 + k)) n u f 7 op b (by omega) K2 (by rw [hw6]; have := q2 (by omega); omega)
    have hr2 : sqR (prs (fun k => s (300 + k)) n u f 7 op b) (fun e k => some (e, some (l ++ k))) = some r := hr
    rw [h2r, sq_ap] at hr2
    have hr3 := Option.some.inj hr2
    exact loop f b l im1 r2 (Nat.le_refl f) K2 (by omega) hP1 hw2 hm1 (by have := q2 (by omega); omega) h2r hr3
theorem pX10_compared {s : Nat → Int32} {n u f : Nat} (h2 : s 2 = nI n) (hn : n ≤ 60) (hC : ∀ g, g ≤ f → PC mX10_sum s n u g 3) : PC mX10_compared s n u (f + 1) 2 := by
  intro op a len D im r ho ha hl hD hP hf hr
  have hw : wgt 2 = 4 := rfl
  have hw1 : wgt 3 = 3 := rfl
  have hw6 : wgt 8 = 1 := rfl
  rw [hw] at hf
  rw [prs_l (by omega)] at hr
  obtain ⟨⟨b, o⟩, h1, K1, K2, K3⟩ := prs_ok (fun k => s (300 + k)) n u f 3 op a (by omega) ha (by rw [hw1]; omega)
  rw [h1] at hr
  simp only at K1 K2 K3
  obtain ⟨D, rfl⟩ : ∃ E, D = E + 1 := ⟨D - 1, by omega⟩
  refine SpI.of [some (.ref 0), none] rfl (by decide) rfl (fun Q hQ => ?_)
  have loop : ∀ (g b : Nat) (acc : List PStp) (im1 : XI) (rr : PRes), g ≤ f → b ≤ n → len + acc.length ≤ b → PsM s u b op (len + acc.length) im1 → im1 5 = wrS (im 5) len acc → mkL im im1 → 12 * (n - b) + 1 < g → prs (fun k => s (300 + k)) n u g 8 op b = some rr → apR acc rr = r → V mX10_compared (D + 1) (0, 0) 9 [some (.ref 0), none] [] SM im1 Q := by
    intro g
    induction g with
    | zero => intro b acc im1 rr g1 g2 g3 g4 g5 g6 g7; omega
    | succ g ih =>
      intro b acc im1 rr g1 g2 g3 hP1 h5 hm1 g7 hrr hap
      have hrr2 : (if isOp 2 (lkA (fun k => s (300 + k)) n b) then sqR (prs (fun k => s (300 + k)) n u g 3 op (b + 1)) (fun b2 l => if 8 = 8 then some (b2, some (l ++ [(3, (lkA (fun k => s (300 + k)) n b))])) else sqR (prs (fun k => s (300 + k)) n u g 8 op b2) (fun e k => some (e, some (l ++ (3, (lkA (fun k => s (300 + k)) n b)) :: k)))) else some (b, some [])) = some rr := by
        have := hrr
        rw [prs_t (by omega)] at this
        exact this
      have stop : ¬ isOp 2 (lkA (fun k => s (300 + k)) n b) → V mX10_compared (D + 1) (0, 0) 32 [some (.ref 0), some (.int (lkA (fun k => s (300 + k)) n b))] [] SM im1 Q := by
        intro h
        rw [if_neg h] at hrr2
        obtain rfl := Option.some.inj hrr2
        have e : r = (b, some acc) := by
          rw [← hap]
          show (b, some (acc ++ [])) = _
          rw [List.append_nil]
        refine bX10_compared_32 ?_
        rw [e] at hQ
        exact hQ _ _ ⟨hm1, rfl, hP1, h5⟩
      have go : isOp 2 (lkA (fun k => s (300 + k)) n b) → V mX10_compared (D + 1) (0, 0) 34 [some (.ref 0), some (.int (lkA (fun k => s (300 + k)) n b))] [] SM im1 Q := by
        intro h
        rw [if_pos h] at hrr2
        have hlt : b < n := lkA_lt (isOp_s h).2
        obtain ⟨⟨b2, o2⟩, hr1, z1, z2, z3⟩ := prs_ok (fun k => s (300 + k)) n u g 3 op (b + 1) (by omega) hlt (by rw [hw1]; omega)
        rw [hr1] at hrr2
        simp only at z1 z2 z3
        refine bX10_compared_34 (hC g (by omega) op (b + 1) (len + acc.length) D _ (b2, o2) ho hlt (by omega) (by omega) hP1.up (by rw [hw1]; omega) hr1) ?_
        rintro x im2 ⟨hm2, hx⟩
        have hm3 : mkL im im2 := (mg0 hm1 (by omega)).tr hm2
        cases o2 with
        | none =>
          obtain ⟨rfl, e1, e5⟩ := hx
          obtain rfl := Option.some.inj hrr2
          refine bX10_compared_48 (fun c => absurd rfl c) (fun _ => ?_)
          refine bX10_compared_51 ?_
          rw [← hap] at hQ
          exact hQ _ _ ⟨hm3, rfl, e1, e5⟩
        | some l =>
          obtain ⟨rfl, hP2, hw2⟩ := hx
          obtain ⟨q1, q2, _⟩ := z3 l rfl
          rw [xup_o (by decide), h5, ← wrS_app] at hw2
          have el : len + acc.length + l.length = len + (acc ++ l).length := by rw [List.length_append]; omega
          rw [el] at hP2
          refine bX10_compared_48 (fun _ => ?_) (fun c => absurd c (by decide))
          refine bX10_compared_53 (pX10_step1 hP2 (by omega)) ?_
          rintro im3 ⟨hP3, h53, hm4⟩
          rw [hw2] at h53
          have el2 : len + (acc ++ l).length + 1 = len + (acc ++ l ++ [(3, lkA (fun k => s (300 + k)) n b)]).length := by rw [List.length_append (bs := [_])]; rfl
          rw [el2] at hP3
          have h54 : im3 5 = wrS (im 5) len (acc ++ l ++ [(3, lkA (fun k => s (300 + k)) n b)]) := by rw [h53, wrS_app (k := [_])]; rfl
          have hr2 : some (b2, some (l ++ [(3, (lkA (fun k => s (300 + k)) n b))])) = some rr := hrr2
          have hr3 := Option.some.inj hr2
          refine bX10_compared_59 ?_
          have e : r = (b2, some (acc ++ l ++ [(3, lkA (fun k => s (300 + k)) n b)])) := by
            rw [← hap, ← hr3]
            show (b2, some (acc ++ (l ++ [(3, _)]))) = _
            rw [List.append_assoc]
          rw [e] at hQ
          exact hQ _ _ ⟨hm3.tr hm4, rfl, hP3, h54⟩
      refine bX10_compared_9 (pX10_look hP1 h2 hn g2) ?_
      rintro _ _ ⟨rfl, rfl⟩
      refine bX10_compared_13 (fun h => (go (Or.inr (Or.inr (Or.inl ⟨rfl, Or.inl h⟩))))) (fun d1 => ?_)
      refine bX10_compared_20 (fun h => (go (Or.inr (Or.inr (Or.inl ⟨rfl, Or.inr (Or.inl h)⟩))))) (fun d2 => ?_)
      refine bX10_compared_26 (fun h => (go (Or.inr (Or.inr (Or.inl ⟨rfl, Or.inr (Or.inr h)⟩))))) (fun d3 => ?_)
      exact stop (fun g => by rcases g with ⟨g, _⟩ | ⟨g, _⟩ | ⟨_, e | e | e⟩ | ⟨g, _⟩ | ⟨g, _⟩ <;> first | exact d1 e | exact d2 e | exact d3 e | exact absurd g (by decide))
  refine bX10_compared_0 (hC f (Nat.le_refl f) op a len D im (b, o) ho ha hl (by omega) hP (by rw [hw1]; omega) h1) ?_
  rintro x im1 ⟨hm1, hx⟩
  cases o with
  | none =>
    obtain ⟨rfl, e1, e5⟩ := hx
    obtain rfl := Option.some.inj hr
    refine bX10_compared_4 (fun c => absurd rfl c) (fun _ => ?_)
    refine bX10_compared_7 ?_
    exact hQ _ _ ⟨hm1, rfl, e1, e5⟩
  | some l =>
    obtain ⟨rfl, hP1, hw2⟩ := hx
    obtain ⟨q1, q2, _⟩ := K3 l rfl
    refine bX10_compared_4 (fun _ => ?_) (fun c => absurd c (by decide))
    obtain ⟨r2, h2r, _, _, _⟩ := prs_ok (fun k => s (300 + k)) n u f 8 op b (by omega) K2 (by rw [hw6]; have := q2 (by omega); omega)
    have hr2 : sqR (prs (fun k => s (300 + k)) n u f 8 op b) (fun e k => some (e, some (l ++ k))) = some r := hr
    rw [h2r, sq_ap] at hr2
    have hr3 := Option.some.inj hr2
    exact loop f b l im1 r2 (Nat.le_refl f) K2 (by omega) hP1 hw2 hm1 (by have := q2 (by omega); omega) h2r hr3
theorem pX10_sum {s : Nat → Int32} {n u f : Nat} (h2 : s 2 = nI n) (hn : n ≤ 60) (hC : ∀ g, g ≤ f → PC mX10_product s n u g 4) : PC mX10_sum s n u (f + 1) 3 := by
  intro op a len D im r ho ha hl hD hP hf hr
  have hw : wgt 3 = 3 := rfl
  have hw1 : wgt 4 = 2 := rfl
  have hw6 : wgt 9 = 1 := rfl
  rw [hw] at hf
  rw [prs_l (by omega)] at hr
  obtain ⟨⟨b, o⟩, h1, K1, K2, K3⟩ := prs_ok (fun k => s (300 + k)) n u f 4 op a (by omega) ha (by rw [hw1]; omega)
  rw [h1] at hr
  simp only at K1 K2 K3
  obtain ⟨D, rfl⟩ : ∃ E, D = E + 1 := ⟨D - 1, by omega⟩
  refine SpI.of [some (.ref 0), none] rfl (by decide) rfl (fun Q hQ => ?_)
  have loop : ∀ (g b : Nat) (acc : List PStp) (im1 : XI) (rr : PRes), g ≤ f → b ≤ n → len + acc.length ≤ b → PsM s u b op (len + acc.length) im1 → im1 5 = wrS (im 5) len acc → mkL im im1 → 12 * (n - b) + 1 < g → prs (fun k => s (300 + k)) n u g 9 op b = some rr → apR acc rr = r → V mX10_sum (D + 1) (0, 0) 9 [some (.ref 0), none] [] SM im1 Q := by
    intro g
    induction g with
    | zero => intro b acc im1 rr g1 g2 g3 g4 g5 g6 g7; omega
    | succ g ih =>
      intro b acc im1 rr g1 g2 g3 hP1 h5 hm1 g7 hrr hap
      have hrr2 : (if isOp 3 (lkA (fun k => s (300 + k)) n b) then sqR (prs (fun k => s (300 + k)) n u g 4 op (b + 1)) (fun b2 l => if 9 = 8 then some (b2, some (l ++ [(3, (lkA (fun k => s (300 + k)) n b))])) else sqR (prs (fun k => s (300 + k)) n u g 9 op b2) (fun e k => some (e, some (l ++ (3, (lkA (fun k => s (300 + k)) n b)) :: k)))) else some (b, some [])) = some rr := by
        have := hrr
        rw [prs_t (by omega)] at this
        exact this
      have stop : ¬ isOp 3 (lkA (fun k => s (300 + k)) n b) → V mX10_sum (D + 1) (0, 0) 60 [some (.ref 0), none] [] SM im1 Q := by
        intro h
        rw [if_neg h] at hrr2
        obtain rfl := Option.some.inj hrr2
        have e : r = (b, some acc) := by
          rw [← hap]
          show (b, some (acc ++ [])) = _
          rw [List.append_nil]
        refine bX10_sum_60 ?_
        rw [e] at hQ
        exact hQ _ _ ⟨hm1, rfl, hP1, h5⟩
      have go : isOp 3 (lkA (fun k => s (300 + k)) n b) → V mX10_sum (D + 1) (0, 0) 31 [some (.ref 0), none] [.int (lkA (fun k => s (300 + k)) n b)] SM im1 Q := by
        intro h
        rw [if_pos h] at hrr2
        have hlt : b < n := lkA_lt (isOp_s h).2
        obtain ⟨⟨b2, o2⟩, hr1, z1, z2, z3⟩ := prs_ok (fun k => s (300 + k)) n u g 4 op (b + 1) (by omega) hlt (by rw [hw1]; omega)
        rw [hr1] at hrr2
        simp only at z1 z2 z3
        refine bX10_sum_31 (hC g (by omega) op (b + 1) (len + acc.length) D _ (b2, o2) ho hlt (by omega) (by omega) hP1.up (by rw [hw1]; omega) hr1) ?_
        rintro x im2 ⟨hm2, hx⟩
        have hm3 : mkL im im2 := (mg0 hm1 (by omega)).tr hm2
        cases o2 with
        | none =>
          obtain ⟨rfl, e1, e5⟩ := hx
          obtain rfl := Option.some.inj hrr2
          refine bX10_sum_46 (fun c => absurd rfl c) (fun _ => ?_)
          refine bX10_sum_49 ?_
          rw [← hap] at hQ
          exact hQ _ _ ⟨hm3, rfl, e1, e5⟩
        | some l =>
          obtain ⟨rfl, hP2, hw2⟩ := hx
          obtain ⟨q1, q2, _⟩ := z3 l rfl
          rw [xup_o (by decide), h5, ← wrS_app] at hw2
          have el : len + acc.length + l.length = len + (acc ++ l).length := by rw [List.length_append]; omega
          rw [el] at hP2
          refine bX10_sum_46 (fun _ => ?_) (fun c => absurd c (by decide))
          refine bX10_sum_51 (pX10_step1 hP2 (by omega)) ?_
          rintro im3 ⟨hP3, h53, hm4⟩
          rw [hw2] at h53
          have el2 : len + (acc ++ l).length + 1 = len + (acc ++ l ++ [(3, lkA (fun k => s (300 + k)) n b)]).length := by rw [List.length_append (bs := [_])]; rfl
          rw [el2] at hP3
          have h54 : im3 5 = wrS (im 5) len (acc ++ l ++ [(3, lkA (fun k => s (300 + k)) n b)]) := by rw [h53, wrS_app (k := [_])]; rfl
          obtain ⟨r2, h2r, _, _, _⟩ := prs_ok (fun k => s (300 + k)) n u g 9 op b2 (by omega) z2 (by rw [hw6]; omega)
          have hr2 : sqR (prs (fun k => s (300 + k)) n u g 9 op b2) (fun e k => some (e, some (l ++ (3, (lkA (fun k => s (300 + k)) n b)) :: k))) = some rr := hrr2
          rw [h2r, show (fun e k => some (e, some (l ++ (3, (lkA (fun k => s (300 + k)) n b)) :: k))) = (fun (e : Nat) (k : List PStp) => some (e, some (l ++ [(3, (lkA (fun k => s (300 + k)) n b))] ++ k))) by funext e k; rw [List.append_assoc]; rfl, sq_ap] at hr2
          have hr3 := Option.some.inj hr2
          refine bX10_sum_57 ?_
          refine ih b2 (acc ++ l ++ [(3, lkA (fun k => s (300 + k)) n b)]) im3 r2 (by omega) z2 (by rw [← el2, ← el]; omega) hP3 h54 (hm3.tr hm4) (by omega) h2r ?_
          rw [← hap, ← hr3, ap_ap, List.append_assoc]
      have ga : isOp 3 (lkA (fun k => s (300 + k)) n b) → V mX10_sum (D + 1) (0, 0) 27 [some (.ref 0), none] [] SM im1 Q := by
        intro h
        refine bX10_sum_27 (pX10_look hP1 h2 hn g2) ?_
        rintro _ _ ⟨rfl, rfl⟩
        exact go h
      refine bX10_sum_9 (pX10_look hP1 h2 hn g2) ?_
      rintro _ _ ⟨rfl, rfl⟩
      refine bX10_sum_13 (fun h => (ga (Or.inr (Or.inr (Or.inr (Or.inl ⟨rfl, Or.inl h⟩)))))) (fun d1 => ?_)
      refine bX10_sum_18 (pX10_look hP1 h2 hn g2) ?_
      rintro _ _ ⟨rfl, rfl⟩
      refine bX10_sum_22 (fun d2 => ?_) (fun h => (ga (Or.inr (Or.inr (Or.inr (Or.inl ⟨rfl, Or.inr h⟩))))))
      exact stop (fun g => by rcases g with ⟨g, _⟩ | ⟨g, _⟩ | ⟨g, _⟩ | ⟨_, e | e⟩ | ⟨g, _⟩ <;> first | exact d1 e | exact d2 e | exact absurd g (by decide))
  refine bX10_sum_0 (hC f (Nat.le_refl f) op a len D im (b, o) ho ha hl (by omega) hP (by rw [hw1]; omega) h1) ?_
  rintro x im1 ⟨hm1, hx⟩
  cases o with
  | none =>
    obtain ⟨rfl, e1, e5⟩ := hx
    obtain rfl := Option.some.inj hr
    refine bX10_sum_4 (fun c => absurd rfl c) (fun _ => ?_)
    refine bX10_sum_7 ?_
    exact hQ _ _ ⟨hm1, rfl, e1, e5⟩
  | some l =>
    obtain ⟨rfl, hP1, hw2⟩ := hx
    obtain ⟨q1, q2, _⟩ := K3 l rfl
    refine bX10_sum_4 (fun _ => ?_) (fun c => absurd c (by decide))
    obtain ⟨r2, h2r, _, _, _⟩ := prs_ok (fun k => s (300 + k)) n u f 9 op b (by omega) K2 (by rw [hw6]; have := q2 (by omega); omega)
    have hr2 : sqR (prs (fun k => s (300 + k)) n u f 9 op b) (fun e k => some (e, some (l ++ k))) = some r := hr
    rw [h2r, sq_ap] at hr2
    have hr3 := Option.some.inj hr2
    exact loop f b l im1 r2 (Nat.le_refl f) K2 (by omega) hP1 hw2 hm1 (by have := q2 (by omega); omega) h2r hr3
theorem pX10_product {s : Nat → Int32} {n u f : Nat} (h2 : s 2 = nI n) (hn : n ≤ 60) (hC : ∀ g, g ≤ f → PC mX10_one s n u g 5) : PC mX10_product s n u (f + 1) 4 := by
  intro op a len D im r ho ha hl hD hP hf hr
  have hw : wgt 4 = 2 := rfl
  have hw1 : wgt 5 = 1 := rfl
  have hw6 : wgt 10 = 1 := rfl
  rw [hw] at hf
  rw [prs_l (by omega)] at hr
  obtain ⟨⟨b, o⟩, h1, K1, K2, K3⟩ := prs_ok (fun k => s (300 + k)) n u f 5 op a (by omega) ha (by rw [hw1]; omega)
  rw [h1] at hr
  simp only at K1 K2 K3
  obtain ⟨D, rfl⟩ : ∃ E, D = E + 1 := ⟨D - 1, by omega⟩
  refine SpI.of [some (.ref 0), none] rfl (by decide) rfl (fun Q hQ => ?_)
  have loop : ∀ (g b : Nat) (acc : List PStp) (im1 : XI) (rr : PRes), g ≤ f → b ≤ n → len + acc.length ≤ b → PsM s u b op (len + acc.length) im1 → im1 5 = wrS (im 5) len acc → mkL im im1 → 12 * (n - b) + 1 < g → prs (fun k => s (300 + k)) n u g 10 op b = some rr → apR acc rr = r → V mX10_product (D + 1) (0, 0) 9 [some (.ref 0), none] [] SM im1 Q := by
    intro g
    induction g with
    | zero => intro b acc im1 rr g1 g2 g3 g4 g5 g6 g7; omega
    | succ g ih =>
      intro b acc im1 rr g1 g2 g3 hP1 h5 hm1 g7 hrr hap
      have hrr2 : (if isOp 4 (lkA (fun k => s (300 + k)) n b) then sqR (prs (fun k => s (300 + k)) n u g 5 op (b + 1)) (fun b2 l => if 10 = 8 then some (b2, some (l ++ [(3, (lkA (fun k => s (300 + k)) n b))])) else sqR (prs (fun k => s (300 + k)) n u g 10 op b2) (fun e k => some (e, some (l ++ (3, (lkA (fun k => s (300 + k)) n b)) :: k)))) else some (b, some [])) = some rr := by
        have := hrr
        rw [prs_t (by omega)] at this
        exact this
      have stop : ¬ isOp 4 (lkA (fun k => s (300 + k)) n b) → V mX10_product (D + 1) (0, 0) 69 [some (.ref 0), none] [] SM im1 Q := by
        intro h
        rw [if_neg h] at hrr2
        obtain rfl := Option.some.inj hrr2
        have e : r = (b, some acc) := by
          rw [← hap]
          show (b, some (acc ++ [])) = _
          rw [List.append_nil]
        refine bX10_product_69 ?_
        rw [e] at hQ
        exact hQ _ _ ⟨hm1, rfl, hP1, h5⟩
      have go : isOp 4 (lkA (fun k => s (300 + k)) n b) → V mX10_product (D + 1) (0, 0) 40 [some (.ref 0), none] [.int (lkA (fun k => s (300 + k)) n b)] SM im1 Q := by
        intro h
        rw [if_pos h] at hrr2
        have hlt : b < n := lkA_lt (isOp_s h).2
        obtain ⟨⟨b2, o2⟩, hr1, z1, z2, z3⟩ := prs_ok (fun k => s (300 + k)) n u g 5 op (b + 1) (by omega) hlt (by rw [hw1]; omega)
        rw [hr1] at hrr2
        simp only at z1 z2 z3
        refine bX10_product_40 (hC g (by omega) op (b + 1) (len + acc.length) D _ (b2, o2) ho hlt (by omega) (by omega) hP1.up (by rw [hw1]; omega) hr1) ?_
        rintro x im2 ⟨hm2, hx⟩
        have hm3 : mkL im im2 := (mg0 hm1 (by omega)).tr hm2
        cases o2 with
        | none =>
          obtain ⟨rfl, e1, e5⟩ := hx
          obtain rfl := Option.some.inj hrr2
          refine bX10_product_55 (fun c => absurd rfl c) (fun _ => ?_)
          refine bX10_product_58 ?_
          rw [← hap] at hQ
          exact hQ _ _ ⟨hm3, rfl, e1, e5⟩
        | some l =>
          obtain ⟨rfl, hP2, hw2⟩ := hx
          obtain ⟨q1, q2, _⟩ := z3 l rfl
          rw [xup_o (by decide), h5, ← wrS_app] at hw2
          have el : len + acc.length + l.length = len + (acc ++ l).length := by rw [List.length_append]; omega
          rw [el] at hP2
          refine bX10_product_55 (fun _ => ?_) (fun c => absurd c (by decide))
          refine bX10_product_60 (pX10_step1 hP2 (by omega)) ?_
          rintro im3 ⟨hP3, h53, hm4⟩
          rw [hw2] at h53
          have el2 : len + (acc ++ l).length + 1 = len + (acc ++ l ++ [(3, lkA (fun k => s (300 + k)) n b)]).length := by rw [List.length_append (bs := [_])]; rfl
          rw [el2] at hP3
          have h54 : im3 5 = wrS (im 5) len (acc ++ l ++ [(3, lkA (fun k => s (300 + k)) n b)]) := by rw [h53, wrS_app (k := [_])]; rfl
          obtain ⟨r2, h2r, _, _, _⟩ := prs_ok (fun k => s (300 + k)) n u g 10 op b2 (by omega) z2 (by rw [hw6]; omega)
          have hr2 : sqR (prs (fun k => s (300 + k)) n u g 10 op b2) (fun e k => some (e, some (l ++ (3, (lkA (fun k => s (300 + k)) n b)) :: k))) = some rr := hrr2
          rw [h2r, show (fun e k => some (e, some (l ++ (3, (lkA (fun k => s (300 + k)) n b)) :: k))) = (fun (e : Nat) (k : List PStp) => some (e, some (l ++ [(3, (lkA (fun k => s (300 + k)) n b))] ++ k))) by funext e k; rw [List.append_assoc]; rfl, sq_ap] at hr2
          have hr3 := Option.some.inj hr2
          refine bX10_product_66 ?_
          refine ih b2 (acc ++ l ++ [(3, lkA (fun k => s (300 + k)) n b)]) im3 r2 (by omega) z2 (by rw [← el2, ← el]; omega) hP3 h54 (hm3.tr hm4) (by omega) h2r ?_
          rw [← hap, ← hr3, ap_ap, List.append_assoc]
      have ga : isOp 4 (lkA (fun k => s (300 + k)) n b) → V mX10_product (D + 1) (0, 0) 36 [some (.ref 0), none] [] SM im1 Q := by
        intro h
        refine bX10_product_36 (pX10_look hP1 h2 hn g2) ?_
        rintro _ _ ⟨rfl, rfl⟩
        exact go h
      refine bX10_product_9 (pX10_look hP1 h2 hn g2) ?_
      rintro _ _ ⟨rfl, rfl⟩
      refine bX10_product_13 (fun h => (ga (Or.inr (Or.inr (Or.inr (Or.inr ⟨rfl, Or.inl h⟩)))))) (fun d1 => ?_)
      refine bX10_product_18 (pX10_look hP1 h2 hn g2) ?_
      rintro _ _ ⟨rfl, rfl⟩
      refine bX10_product_22 (fun h => (ga (Or.inr (Or.inr (Or.inr (Or.inr ⟨rfl, Or.inr (Or.inl h)⟩)))))) (fun d2 => ?_)
      refine bX10_product_27 (pX10_look hP1 h2 hn g2) ?_
      rintro _ _ ⟨rfl, rfl⟩
      refine bX10_product_31 (fun d3 => ?_) (fun h => (ga (Or.inr (Or.inr (Or.inr (Or.inr ⟨rfl, Or.inr (Or.inr h)⟩))))))
      exact stop (fun g => by rcases g with ⟨g, _⟩ | ⟨g, _⟩ | ⟨g, _⟩ | ⟨g, _⟩ | ⟨_, e | e | e⟩ <;> first | exact d1 e | exact d2 e | exact d3 e | exact absurd g (by decide))
  refine bX10_product_0 (hC f (Nat.le_refl f) op a len D im (b, o) ho ha hl (by omega) hP (by rw [hw1]; omega) h1) ?_
  rintro x im1 ⟨hm1, hx⟩
  cases o with
  | none =>
    obtain ⟨rfl, e1, e5⟩ := hx
    obtain rfl := Option.some.inj hr
    refine bX10_product_4 (fun c => absurd rfl c) (fun _ => ?_)
    refine bX10_product_7 ?_
    exact hQ _ _ ⟨hm1, rfl, e1, e5⟩
  | some l =>
    obtain ⟨rfl, hP1, hw2⟩ := hx
    obtain ⟨q1, q2, _⟩ := K3 l rfl
    refine bX10_product_4 (fun _ => ?_) (fun c => absurd c (by decide))
    obtain ⟨r2, h2r, _, _, _⟩ := prs_ok (fun k => s (300 + k)) n u f 10 op b (by omega) K2 (by rw [hw6]; have := q2 (by omega); omega)
    have hr2 : sqR (prs (fun k => s (300 + k)) n u f 10 op b) (fun e k => some (e, some (l ++ k))) = some r := hr
    rw [h2r, sq_ap] at hr2
    have hr3 := Option.some.inj hr2
    exact loop f b l im1 r2 (Nat.le_refl f) K2 (by omega) hP1 hw2 hm1 (by have := q2 (by omega); omega) h2r hr3

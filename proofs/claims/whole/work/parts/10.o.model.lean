theorem pX10_starts {d : Nat} {im : XI} {v : Int32} (h : hT im) : SpV mX10_starts d [.ref 0, .int v] SM im (fun im' => im' = str im v) := by
  refine SpV.of [some (.ref 0), some (.int v)] rfl (by decide) rfl (fun Q hQ => ?_)
  obtain ⟨n, hn, he⟩ := h
  refine bX10_starts_0 (fun c => ?_) (fun c => ?_)
  · refine bX10_starts_29 ?_
    refine hQ _ ?_
    unfold str
    rw [if_pos c]
  · have h30 : n < 30 := by
      rw [he] at c
      exact lt_i (a := 30) (by omega) (by omega) c
    refine bX10_starts_9 he h30 ?_
    refine bX10_starts_29 ?_
    refine hQ _ ?_
    unfold str
    rw [if_neg c, xup_o (by decide), he, nnat_nI (by omega)]
theorem pX10_kindNow {d : Nat} {im : XI} {s : Nat → Int32} {p : Nat} (h : Vo im s p) (hp : p < 6) : SpI mX10_kindNow (d + 1) [.ref 0] SM im (fun x im' => x = s (8 + 4 * p) ∧ im = im') := by
  refine SpI.of [some (.ref 0)] rfl (by decide) rfl (fun Q hQ => ?_)
  obtain ⟨hs, h14, hT⟩ := h
  refine bX10_kindNow_0 (qX10_its (w := 0) (i := 8 + 4 * p) hs h14 rfl (by omega) (by omega)) ?_
  rintro _ _ ⟨rfl, rfl⟩
  refine bX10_kindNow_9 ?_
  exact hQ _ _ ⟨rfl, rfl⟩
theorem pX10_mNow {d : Nat} {im : XI} {s : Nat → Int32} {p : Nat} (h : Vo im s p) (hp : p < 6) : SpI mX10_mNow (d + 1) [.ref 0] SM im (fun x im' => x = s (9 + 4 * p) ∧ im = im') := by
  refine SpI.of [some (.ref 0)] rfl (by decide) rfl (fun Q hQ => ?_)
  obtain ⟨hs, h14, hT⟩ := h
  refine bX10_mNow_0 (qX10_its (w := 1) (i := 9 + 4 * p) hs h14 rfl (by omega) (by omega)) ?_
  rintro _ _ ⟨rfl, rfl⟩
  refine bX10_mNow_9 ?_
  exact hQ _ _ ⟨rfl, rfl⟩
theorem pX10_blinksAs_k0 {d : Nat} {im : XI} {x0 : Int32} (h : hT im) : SpI mX10_blinksAs (d + 1) [.ref 0, .int 0, .int x0] SM im (fun x im' => x = blV 0 (im 0 14) x0 ∧ im' = trA im (blL 0)) := by
  refine SpI.of [some (.ref 0), some (.int 0), some (.int x0)] rfl (by decide) rfl (fun Q hQ => ?_)
  refine bX10_blinksAs_0 (fun _ => ?_) (fun c => absurd c (by decide)) (fun c => absurd c (by decide)) (fun c => absurd c (by decide)) (fun c0 c1 c2 c3 => absurd rfl c0)
  refine bX10_blinksAs_44 (pX10_starts h) ?_
  rintro _ rfl
  refine bX10_blinksAs_50 ?_
  exact hQ _ _ ⟨by rw [str_o (by decide)]; rfl, rfl⟩
theorem pX10_blinksAs_k6 {d : Nat} {im : XI} {x0 : Int32} (h : hT im) : SpI mX10_blinksAs (d + 1) [.ref 0, .int 6, .int x0] SM im (fun x im' => x = blV 6 (im 0 14) x0 ∧ im' = trA im (blL 6)) := by
  refine SpI.of [some (.ref 0), some (.int 6), some (.int x0)] rfl (by decide) rfl (fun Q hQ => ?_)
  refine bX10_blinksAs_0 (fun c => absurd c (by decide)) (fun c => absurd c (by decide)) (fun c => absurd c (by decide)) (fun _ => ?_) (fun c0 c1 c2 c3 => absurd rfl c3)
  refine bX10_blinksAs_93 (pX10_starts h) ?_
  rintro _ rfl
  refine bX10_blinksAs_99 ?_
  exact hQ _ _ ⟨rfl, rfl⟩
theorem pX10_blinksAs_k1 {d : Nat} {im : XI} {x0 : Int32} (h : hT im) : SpI mX10_blinksAs (d + 2) [.ref 0, .int 1, .int x0] SM im (fun x im' => x = blV 1 (im 0 14) x0 ∧ im' = trA im (blL 1)) := by
  refine SpI.of [some (.ref 0), some (.int 1), some (.int x0)] rfl (by decide) rfl (fun Q hQ => ?_)
  refine bX10_blinksAs_0 (fun c => absurd c (by decide)) (fun _ => ?_) (fun c => absurd c (by decide)) (fun c => absurd c (by decide)) (fun c0 c1 c2 c3 => absurd rfl c1)
  refine bX10_blinksAs_57 (pX10_starts h) ?_
  rintro _ rfl
  refine bX10_blinksAs_63 pX10_above ?_
  rintro _ _ ⟨rfl, rfl⟩
  rw [show abv 1 = 0 from by decide]
  refine bX10_blinksAs_68 rfl (pX10_blinksAs_k0 (str_T h)) ?_
  rintro _ _ ⟨rfl, rfl⟩
  refine bX10_blinksAs_72 ?_
  exact hQ _ _ ⟨by rw [str_o (by decide)]; rfl, rfl⟩
theorem pX10_blinksAs_k4 {d : Nat} {im : XI} {x0 : Int32} (h : hT im) : SpI mX10_blinksAs (d + 3) [.ref 0, .int 4, .int x0] SM im (fun x im' => x = blV 4 (im 0 14) x0 ∧ im' = trA im (blL 4)) := by
  refine SpI.of [some (.ref 0), some (.int 4), some (.int x0)] rfl (by decide) rfl (fun Q hQ => ?_)
  refine bX10_blinksAs_0 (fun c => absurd c (by decide)) (fun c => absurd c (by decide)) (fun _ => ?_) (fun c => absurd c (by decide)) (fun c0 c1 c2 c3 => absurd rfl c2)
  refine bX10_blinksAs_75 (pX10_starts h) ?_
  rintro _ rfl
  refine bX10_blinksAs_81 pX10_above ?_
  rintro _ _ ⟨rfl, rfl⟩
  rw [show abv 4 = 1 from by decide]
  refine bX10_blinksAs_86 rfl (pX10_blinksAs_k1 (str_T h)) ?_
  rintro _ _ ⟨rfl, rfl⟩
  refine bX10_blinksAs_90 ?_
  exact hQ _ _ ⟨by rw [str_o (by decide)]; rfl, rfl⟩
theorem pX10_blinksAs_k2 {d : Nat} {im : XI} {x0 : Int32} (h : hT im) : SpI mX10_blinksAs (d + 2) [.ref 0, .int 2, .int x0] SM im (fun x im' => x = blV 2 (im 0 14) x0 ∧ im' = trA im (blL 2)) := by
  refine SpI.of [some (.ref 0), some (.int 2), some (.int x0)] rfl (by decide) rfl (fun Q hQ => ?_)
  refine bX10_blinksAs_0 (fun c => absurd c (by decide)) (fun c => absurd c (by decide)) (fun c => absurd c (by decide)) (fun c => absurd c (by decide)) (fun _ _ _ _ => ?_)
  refine bX10_blinksAs_102 pX10_above ?_
  rintro _ _ ⟨rfl, rfl⟩
  rw [show abv 2 = 0 from by decide]
  refine bX10_blinksAs_107 rfl (pX10_blinksAs_k0 h) ?_
  rintro _ _ ⟨rfl, rfl⟩
  refine bX10_blinksAs_111 ?_
  exact hQ _ _ ⟨rfl, rfl⟩
theorem pX10_blinksAs_k3 {d : Nat} {im : XI} {x0 : Int32} (h : hT im) : SpI mX10_blinksAs (d + 2) [.ref 0, .int 3, .int x0] SM im (fun x im' => x = blV 3 (im 0 14) x0 ∧ im' = trA im (blL 3)) := by
  refine SpI.of [some (.ref 0), some (.int 3), some (.int x0)] rfl (by decide) rfl (fun Q hQ => ?_)
  refine bX10_blinksAs_0 (fun c => absurd c (by decide)) (fun c => absurd c (by decide)) (fun c => absurd c (by decide)) (fun c => absurd c (by decide)) (fun _ _ _ _ => ?_)
  refine bX10_blinksAs_102 pX10_above ?_
  rintro _ _ ⟨rfl, rfl⟩
  rw [show abv 3 = 0 from by decide]
  refine bX10_blinksAs_107 rfl (pX10_blinksAs_k0 h) ?_
  rintro _ _ ⟨rfl, rfl⟩
  refine bX10_blinksAs_111 ?_
  exact hQ _ _ ⟨rfl, rfl⟩
theorem pX10_blinksAs_k5 {d : Nat} {im : XI} {x0 : Int32} (h : hT im) : SpI mX10_blinksAs (d + 3) [.ref 0, .int 5, .int x0] SM im (fun x im' => x = blV 5 (im 0 14) x0 ∧ im' = trA im (blL 5)) := by
  refine SpI.of [some (.ref 0), some (.int 5), some (.int x0)] rfl (by decide) rfl (fun Q hQ => ?_)
  refine bX10_blinksAs_0 (fun c => absurd c (by decide)) (fun c => absurd c (by decide)) (fun c => absurd c (by decide)) (fun c => absurd c (by decide)) (fun _ _ _ _ => ?_)
  refine bX10_blinksAs_102 pX10_above ?_
  rintro _ _ ⟨rfl, rfl⟩
  rw [show abv 5 = 2 from by decide]
  refine bX10_blinksAs_107 rfl (pX10_blinksAs_k2 h) ?_
  rintro _ _ ⟨rfl, rfl⟩
  refine bX10_blinksAs_111 ?_
  exact hQ _ _ ⟨rfl, rfl⟩
theorem pX10_blinksAs {d : Nat} {im : XI} {x0 : Int32} {k : Nat} (hk : k < 7) (h : hT im) : SpI mX10_blinksAs (d + 3) [.ref 0, .int (nI k), .int x0] SM im (fun x im' => x = blV k (im 0 14) x0 ∧ im' = trA im (blL k)) := by
  match k, hk with
  | 0, _ => exact pX10_blinksAs_k0 (d := d + 2) h
  | 1, _ => exact pX10_blinksAs_k1 (d := d + 1) h
  | 2, _ => exact pX10_blinksAs_k2 (d := d + 1) h
  | 3, _ => exact pX10_blinksAs_k3 (d := d + 1) h
  | 4, _ => exact pX10_blinksAs_k4 (d := d + 0) h
  | 5, _ => exact pX10_blinksAs_k5 (d := d + 0) h
  | 6, _ => exact pX10_blinksAs_k6 (d := d + 2) h
theorem pX10_movesAs_k0 {d : Nat} {im : XI} {s : Nat → Int32} {p o : Nat} {x0 : Int32} (h : Vo im s p) (hp : p < 6) (ho : s (8 + 4 * p) = nI o) (ho7 : o < 7) : SpI mX10_movesAs (d + 4) [.ref 0, .int 0, .int x0] SM im (fun x im' => x = mvV 0 o (nI p) (s (9 + 4 * p)) x0 ∧ im' = trA im (mvL 0 o)) := by
  refine SpI.of [some (.ref 0), some (.int 0), some (.int x0)] rfl (by decide) rfl (fun Q hQ => ?_)
  refine bX10_movesAs_0 (fun _ => ?_) (fun c => absurd c (by decide)) (fun c => absurd c (by decide)) (fun c => absurd c (by decide)) (fun c0 c1 c2 c3 => absurd rfl c0)
  refine bX10_movesAs_44 (pX10_starts h.2.2) ?_
  rintro _ rfl
  refine bX10_movesAs_50 (pX10_kindNow (Vo.s (b := 11) h) hp) ?_
  rintro _ _ ⟨rfl, rfl⟩
  rw [ho]
  refine bX10_movesAs_55 rfl (pX10_blinksAs ho7 (Vo.s (b := 11) h).2.2) ?_
  rintro _ _ ⟨rfl, rfl⟩
  refine bX10_movesAs_59 ?_
  exact hQ _ _ ⟨by rw [(Vo.s (b := 11) h).2.1]; rfl, rfl⟩
theorem pX10_movesAs_k2 {d : Nat} {im : XI} {s : Nat → Int32} {p o : Nat} {x0 : Int32} (h : Vo im s p) (hp : p < 6) (ho : s (8 + 4 * p) = nI o) (ho7 : o < 7) : SpI mX10_movesAs (d + 5) [.ref 0, .int 2, .int x0] SM im (fun x im' => x = mvV 2 o (nI p) (s (9 + 4 * p)) x0 ∧ im' = trA im (mvL 2 o)) := by
  refine SpI.of [some (.ref 0), some (.int 2), some (.int x0)] rfl (by decide) rfl (fun Q hQ => ?_)
  refine bX10_movesAs_0 (fun c => absurd c (by decide)) (fun _ => ?_) (fun c => absurd c (by decide)) (fun c => absurd c (by decide)) (fun c0 c1 c2 c3 => absurd rfl c1)
  refine bX10_movesAs_62 (pX10_starts h.2.2) ?_
  rintro _ rfl
  refine bX10_movesAs_68 pX10_above ?_
  rintro _ _ ⟨rfl, rfl⟩
  rw [show abv 2 = 0 from by decide]
  refine bX10_movesAs_74 rfl (pX10_movesAs_k0 (Vo.s (b := 30) h) hp ho ho7) ?_
  rintro _ _ ⟨rfl, rfl⟩
  refine bX10_movesAs_78 ?_
  exact hQ _ _ ⟨rfl, rfl⟩
theorem pX10_movesAs_k5 {d : Nat} {im : XI} {s : Nat → Int32} {p o : Nat} {x0 : Int32} (h : Vo im s p) (hp : p < 6) (ho : s (8 + 4 * p) = nI o) (ho7 : o < 7) : SpI mX10_movesAs (d + 6) [.ref 0, .int 5, .int x0] SM im (fun x im' => x = mvV 5 o (nI p) (s (9 + 4 * p)) x0 ∧ im' = trA im (mvL 5 o)) := by
  refine SpI.of [some (.ref 0), some (.int 5), some (.int x0)] rfl (by decide) rfl (fun Q hQ => ?_)
  refine bX10_movesAs_0 (fun c => absurd c (by decide)) (fun c => absurd c (by decide)) (fun _ => ?_) (fun c => absurd c (by decide)) (fun c0 c1 c2 c3 => absurd rfl c2)
  refine bX10_movesAs_80 (pX10_starts h.2.2) ?_
  rintro _ rfl
  refine bX10_movesAs_86 pX10_above ?_
  rintro _ _ ⟨rfl, rfl⟩
  rw [show abv 5 = 2 from by decide]
  refine bX10_movesAs_91 rfl (pX10_movesAs_k2 (Vo.s (b := 60) h) hp ho ho7) ?_
  rintro _ _ ⟨rfl, rfl⟩
  refine bX10_movesAs_97 ?_
  exact hQ _ _ ⟨rfl, rfl⟩
theorem pX10_movesAs_k6 {d : Nat} {im : XI} {s : Nat → Int32} {p o : Nat} {x0 : Int32} (h : Vo im s p) (hp : p < 6) (ho : s (8 + 4 * p) = nI o) (ho7 : o < 7) : SpI mX10_movesAs (d + 5) [.ref 0, .int 6, .int x0] SM im (fun x im' => x = mvV 6 o (nI p) (s (9 + 4 * p)) x0 ∧ im' = trA im (mvL 6 o)) := by
  refine SpI.of [some (.ref 0), some (.int 6), some (.int x0)] rfl (by decide) rfl (fun Q hQ => ?_)
  refine bX10_movesAs_0 (fun c => absurd c (by decide)) (fun c => absurd c (by decide)) (fun c => absurd c (by decide)) (fun _ => ?_) (fun c0 c1 c2 c3 => absurd rfl c3)
  refine bX10_movesAs_98 (pX10_starts h.2.2) ?_
  rintro _ rfl
  refine bX10_movesAs_104 pX10_above ?_
  rintro _ _ ⟨rfl, rfl⟩
  rw [show abv 6 = 0 from by decide]
  refine bX10_movesAs_110 rfl (pX10_movesAs_k0 (Vo.s (b := 71) h) hp ho ho7) ?_
  rintro _ _ ⟨rfl, rfl⟩
  refine bX10_movesAs_114 (pX10_mNow (Vo.t (Vo.s (b := 71) h)) hp) ?_
  rintro _ _ ⟨rfl, rfl⟩
  refine bX10_movesAs_118 ?_
  exact hQ _ _ ⟨rfl, rfl⟩
theorem pX10_movesAs_k1 {d : Nat} {im : XI} {s : Nat → Int32} {p o : Nat} {x0 : Int32} (h : Vo im s p) (hp : p < 6) (ho : s (8 + 4 * p) = nI o) (ho7 : o < 7) : SpI mX10_movesAs (d + 5) [.ref 0, .int 1, .int x0] SM im (fun x im' => x = mvV 1 o (nI p) (s (9 + 4 * p)) x0 ∧ im' = trA im (mvL 1 o)) := by
  refine SpI.of [some (.ref 0), some (.int 1), some (.int x0)] rfl (by decide) rfl (fun Q hQ => ?_)
  refine bX10_movesAs_0 (fun c => absurd c (by decide)) (fun c => absurd c (by decide)) (fun c => absurd c (by decide)) (fun c => absurd c (by decide)) (fun _ _ _ _ => ?_)
  refine bX10_movesAs_120 pX10_above ?_
  rintro _ _ ⟨rfl, rfl⟩
  rw [show abv 1 = 0 from by decide]
  refine bX10_movesAs_125 rfl (pX10_movesAs_k0 h hp ho ho7) ?_
  rintro _ _ ⟨rfl, rfl⟩
  refine bX10_movesAs_129 ?_
  exact hQ _ _ ⟨rfl, rfl⟩
theorem pX10_movesAs_k3 {d : Nat} {im : XI} {s : Nat → Int32} {p o : Nat} {x0 : Int32} (h : Vo im s p) (hp : p < 6) (ho : s (8 + 4 * p) = nI o) (ho7 : o < 7) : SpI mX10_movesAs (d + 5) [.ref 0, .int 3, .int x0] SM im (fun x im' => x = mvV 3 o (nI p) (s (9 + 4 * p)) x0 ∧ im' = trA im (mvL 3 o)) := by
  refine SpI.of [some (.ref 0), some (.int 3), some (.int x0)] rfl (by decide) rfl (fun Q hQ => ?_)
  refine bX10_movesAs_0 (fun c => absurd c (by decide)) (fun c => absurd c (by decide)) (fun c => absurd c (by decide)) (fun c => absurd c (by decide)) (fun _ _ _ _ => ?_)
  refine bX10_movesAs_120 pX10_above ?_
  rintro _ _ ⟨rfl, rfl⟩
  rw [show abv 3 = 0 from by decide]
  refine bX10_movesAs_125 rfl (pX10_movesAs_k0 h hp ho ho7) ?_
  rintro _ _ ⟨rfl, rfl⟩
  refine bX10_movesAs_129 ?_
  exact hQ _ _ ⟨rfl, rfl⟩
theorem pX10_movesAs_k4 {d : Nat} {im : XI} {s : Nat → Int32} {p o : Nat} {x0 : Int32} (h : Vo im s p) (hp : p < 6) (ho : s (8 + 4 * p) = nI o) (ho7 : o < 7) : SpI mX10_movesAs (d + 6) [.ref 0, .int 4, .int x0] SM im (fun x im' => x = mvV 4 o (nI p) (s (9 + 4 * p)) x0 ∧ im' = trA im (mvL 4 o)) := by
  refine SpI.of [some (.ref 0), some (.int 4), some (.int x0)] rfl (by decide) rfl (fun Q hQ => ?_)
  refine bX10_movesAs_0 (fun c => absurd c (by decide)) (fun c => absurd c (by decide)) (fun c => absurd c (by decide)) (fun c => absurd c (by decide)) (fun _ _ _ _ => ?_)
  refine bX10_movesAs_120 pX10_above ?_
  rintro _ _ ⟨rfl, rfl⟩
  rw [show abv 4 = 1 from by decide]
  refine bX10_movesAs_125 rfl (pX10_movesAs_k1 h hp ho ho7) ?_
  rintro _ _ ⟨rfl, rfl⟩
  refine bX10_movesAs_129 ?_
  exact hQ _ _ ⟨rfl, rfl⟩
theorem pX10_movesAs {d : Nat} {im : XI} {s : Nat → Int32} {p o : Nat} {x0 : Int32} {k : Nat} (hk : k < 7) (h : Vo im s p) (hp : p < 6) (ho : s (8 + 4 * p) = nI o) (ho7 : o < 7) : SpI mX10_movesAs (d + 6) [.ref 0, .int (nI k), .int x0] SM im (fun x im' => x = mvV k o (nI p) (s (9 + 4 * p)) x0 ∧ im' = trA im (mvL k o)) := by
  match k, hk with
  | 0, _ => exact pX10_movesAs_k0 (d := d + 2) h hp ho ho7
  | 1, _ => exact pX10_movesAs_k1 (d := d + 1) h hp ho ho7
  | 2, _ => exact pX10_movesAs_k2 (d := d + 1) h hp ho ho7
  | 3, _ => exact pX10_movesAs_k3 (d := d + 1) h hp ho ho7
  | 4, _ => exact pX10_movesAs_k4 (d := d + 0) h hp ho ho7
  | 5, _ => exact pX10_movesAs_k5 (d := d + 0) h hp ho ho7
  | 6, _ => exact pX10_movesAs_k6 (d := d + 1) h hp ho ho7
theorem pX10_looksAs_k0 {d : Nat} {im : XI} {s : Nat → Int32} {p o : Nat} {x0 : Int32} (h : Vo im s p) (hp : p < 6) (ho : s (8 + 4 * p) = nI o) (ho7 : o < 7) : SpI mX10_looksAs (d + 7) [.ref 0, .int 0, .int x0] SM im (fun x im' => x = lkV 0 o (nI p) (s (9 + 4 * p)) x0 ∧ im' = trA im (lkL 0 o)) := by
  refine SpI.of [some (.ref 0), some (.int 0), some (.int x0)] rfl (by decide) rfl (fun Q hQ => ?_)
  refine bX10_looksAs_0 (fun _ => ?_) (fun c => absurd c (by decide)) (fun c => absurd c (by decide)) (fun c0 c1 c2 => absurd rfl c0)
  refine bX10_looksAs_36 (pX10_starts h.2.2) ?_
  rintro _ rfl
  refine bX10_looksAs_42 (pX10_kindNow (Vo.s (b := 12) h) hp) ?_
  rintro _ _ ⟨rfl, rfl⟩
  rw [ho]
  refine bX10_looksAs_47 rfl (pX10_movesAs ho7 (Vo.s (b := 12) h) hp ho ho7) ?_
  rintro _ _ ⟨rfl, rfl⟩
  refine bX10_looksAs_51 (pX10_mNow (Vo.t (Vo.s (b := 12) h)) hp) ?_
  rintro _ _ ⟨rfl, rfl⟩
  refine bX10_looksAs_55 ?_
  exact hQ _ _ ⟨rfl, rfl⟩
theorem pX10_looksAs_k3 {d : Nat} {im : XI} {s : Nat → Int32} {p o : Nat} {x0 : Int32} (h : Vo im s p) (hp : p < 6) (ho : s (8 + 4 * p) = nI o) (ho7 : o < 7) : SpI mX10_looksAs (d + 8) [.ref 0, .int 3, .int x0] SM im (fun x im' => x = lkV 3 o (nI p) (s (9 + 4 * p)) x0 ∧ im' = trA im (lkL 3 o)) := by
  refine SpI.of [some (.ref 0), some (.int 3), some (.int x0)] rfl (by decide) rfl (fun Q hQ => ?_)
  refine bX10_looksAs_0 (fun c => absurd c (by decide)) (fun _ => ?_) (fun c => absurd c (by decide)) (fun c0 c1 c2 => absurd rfl c1)
  refine bX10_looksAs_57 (pX10_starts h.2.2) ?_
  rintro _ rfl
  refine bX10_looksAs_63 pX10_above ?_
  rintro _ _ ⟨rfl, rfl⟩
  rw [show abv 3 = 0 from by decide]
  refine bX10_looksAs_68 rfl (pX10_looksAs_k0 (Vo.s (b := 40) h) hp ho ho7) ?_
  rintro _ _ ⟨rfl, rfl⟩
  refine bX10_looksAs_74 ?_
  exact hQ _ _ ⟨rfl, rfl⟩
theorem pX10_looksAs_k1 {d : Nat} {im : XI} {s : Nat → Int32} {p o : Nat} {x0 : Int32} (h : Vo im s p) (hp : p < 6) (ho : s (8 + 4 * p) = nI o) (ho7 : o < 7) : SpI mX10_looksAs (d + 8) [.ref 0, .int 1, .int x0] SM im (fun x im' => x = lkV 1 o (nI p) (s (9 + 4 * p)) x0 ∧ im' = trA im (lkL 1 o)) := by
  refine SpI.of [some (.ref 0), some (.int 1), some (.int x0)] rfl (by decide) rfl (fun Q hQ => ?_)
  refine bX10_looksAs_0 (fun c => absurd c (by decide)) (fun c => absurd c (by decide)) (fun c => absurd c (by decide)) (fun _ _ _ => ?_)
  refine bX10_looksAs_96 pX10_above ?_
  rintro _ _ ⟨rfl, rfl⟩
  rw [show abv 1 = 0 from by decide]
  refine bX10_looksAs_101 rfl (pX10_looksAs_k0 h hp ho ho7) ?_
  rintro _ _ ⟨rfl, rfl⟩
  refine bX10_looksAs_105 ?_
  exact hQ _ _ ⟨rfl, rfl⟩
theorem pX10_looksAs_k2 {d : Nat} {im : XI} {s : Nat → Int32} {p o : Nat} {x0 : Int32} (h : Vo im s p) (hp : p < 6) (ho : s (8 + 4 * p) = nI o) (ho7 : o < 7) : SpI mX10_looksAs (d + 8) [.ref 0, .int 2, .int x0] SM im (fun x im' => x = lkV 2 o (nI p) (s (9 + 4 * p)) x0 ∧ im' = trA im (lkL 2 o)) := by
  refine SpI.of [some (.ref 0), some (.int 2), some (.int x0)] rfl (by decide) rfl (fun Q hQ => ?_)
  refine bX10_looksAs_0 (fun c => absurd c (by decide)) (fun c => absurd c (by decide)) (fun c => absurd c (by decide)) (fun _ _ _ => ?_)
  refine bX10_looksAs_96 pX10_above ?_
  rintro _ _ ⟨rfl, rfl⟩
  rw [show abv 2 = 0 from by decide]
  refine bX10_looksAs_101 rfl (pX10_looksAs_k0 h hp ho ho7) ?_
  rintro _ _ ⟨rfl, rfl⟩
  refine bX10_looksAs_105 ?_
  exact hQ _ _ ⟨rfl, rfl⟩
theorem pX10_looksAs_k6 {d : Nat} {im : XI} {s : Nat → Int32} {p o : Nat} {x0 : Int32} (h : Vo im s p) (hp : p < 6) (ho : s (8 + 4 * p) = nI o) (ho7 : o < 7) : SpI mX10_looksAs (d + 8) [.ref 0, .int 6, .int x0] SM im (fun x im' => x = lkV 6 o (nI p) (s (9 + 4 * p)) x0 ∧ im' = trA im (lkL 6 o)) := by
  refine SpI.of [some (.ref 0), some (.int 6), some (.int x0)] rfl (by decide) rfl (fun Q hQ => ?_)
  refine bX10_looksAs_0 (fun c => absurd c (by decide)) (fun c => absurd c (by decide)) (fun c => absurd c (by decide)) (fun _ _ _ => ?_)
  refine bX10_looksAs_96 pX10_above ?_
  rintro _ _ ⟨rfl, rfl⟩
  rw [show abv 6 = 0 from by decide]
  refine bX10_looksAs_101 rfl (pX10_looksAs_k0 h hp ho ho7) ?_
  rintro _ _ ⟨rfl, rfl⟩
  refine bX10_looksAs_105 ?_
  exact hQ _ _ ⟨rfl, rfl⟩
theorem pX10_looksAs_k5 {d : Nat} {im : XI} {s : Nat → Int32} {p o : Nat} {x0 : Int32} (h : Vo im s p) (hp : p < 6) (ho : s (8 + 4 * p) = nI o) (ho7 : o < 7) : SpI mX10_looksAs (d + 9) [.ref 0, .int 5, .int x0] SM im (fun x im' => x = lkV 5 o (nI p) (s (9 + 4 * p)) x0 ∧ im' = trA im (lkL 5 o)) := by
  refine SpI.of [some (.ref 0), some (.int 5), some (.int x0)] rfl (by decide) rfl (fun Q hQ => ?_)
  refine bX10_looksAs_0 (fun c => absurd c (by decide)) (fun c => absurd c (by decide)) (fun c => absurd c (by decide)) (fun _ _ _ => ?_)
  refine bX10_looksAs_96 pX10_above ?_
  rintro _ _ ⟨rfl, rfl⟩
  rw [show abv 5 = 2 from by decide]
  refine bX10_looksAs_101 rfl (pX10_looksAs_k2 h hp ho ho7) ?_
  rintro _ _ ⟨rfl, rfl⟩
  refine bX10_looksAs_105 ?_
  exact hQ _ _ ⟨rfl, rfl⟩
theorem pX10_looksAs_k4 {d : Nat} {im : XI} {s : Nat → Int32} {p o : Nat} {x0 : Int32} (h : Vo im s p) (hp : p < 6) (ho : s (8 + 4 * p) = nI o) (ho7 : o < 7) : SpI mX10_looksAs (d + 9) [.ref 0, .int 4, .int x0] SM im (fun x im' => x = lkV 4 o (nI p) (s (9 + 4 * p)) x0 ∧ im' = trA im (lkL 4 o)) := by
  refine SpI.of [some (.ref 0), some (.int 4), some (.int x0)] rfl (by decide) rfl (fun Q hQ => ?_)
  refine bX10_looksAs_0 (fun c => absurd c (by decide)) (fun c => absurd c (by decide)) (fun _ => ?_) (fun c0 c1 c2 => absurd rfl c2)
  refine bX10_looksAs_75 (pX10_starts h.2.2) ?_
  rintro _ rfl
  refine bX10_looksAs_81 pX10_above ?_
  rintro _ _ ⟨rfl, rfl⟩
  rw [show abv 4 = 1 from by decide]
  refine bX10_looksAs_86 rfl (pX10_looksAs_k1 (Vo.s (b := 51) h) hp ho ho7) ?_
  rintro _ _ ⟨rfl, rfl⟩
  refine bX10_looksAs_90 ?_
  exact hQ _ _ ⟨by rw [(Vo.t (l := lkL 1 o) (Vo.s (b := 51) h)).2.1]; rfl, rfl⟩
theorem pX10_looksAs {d : Nat} {im : XI} {s : Nat → Int32} {p o : Nat} {x0 : Int32} {k : Nat} (hk : k < 7) (h : Vo im s p) (hp : p < 6) (ho : s (8 + 4 * p) = nI o) (ho7 : o < 7) : SpI mX10_looksAs (d + 9) [.ref 0, .int (nI k), .int x0] SM im (fun x im' => x = lkV k o (nI p) (s (9 + 4 * p)) x0 ∧ im' = trA im (lkL k o)) := by
  match k, hk with
  | 0, _ => exact pX10_looksAs_k0 (d := d + 2) h hp ho ho7
  | 1, _ => exact pX10_looksAs_k1 (d := d + 1) h hp ho ho7
  | 2, _ => exact pX10_looksAs_k2 (d := d + 1) h hp ho ho7
  | 3, _ => exact pX10_looksAs_k3 (d := d + 1) h hp ho ho7
  | 4, _ => exact pX10_looksAs_k4 (d := d + 0) h hp ho ho7
  | 5, _ => exact pX10_looksAs_k5 (d := d + 0) h hp ho ho7
  | 6, _ => exact pX10_looksAs_k6 (d := d + 1) h hp ho ho7
theorem pX10_partsAs_k0 {d : Nat} {im : XI} {s : Nat → Int32} {p o : Nat} {x0 : Int32} (h : Vo im s p) (hp : p < 6) (ho : s (8 + 4 * p) = nI o) (ho7 : o < 7) : SpI mX10_partsAs (d + 2) [.ref 0, .int 0, .int x0] SM im (fun x im' => x = ptV 0 o (nI p) (s (9 + 4 * p)) x0 ∧ im' = xup (trA im (ptL 0 o (nI p) (s (9 + 4 * p)))) 0 15 (b2i (s (9 + 4 * p) - nI p = 0))) := by
  refine SpI.of [some (.ref 0), some (.int 0), some (.int x0), none, none] rfl (by decide) rfl (fun Q hQ => ?_)
  refine bX10_partsAs_0 (fun _ => ?_) (fun c => absurd c (by decide)) (fun c0 c1 => absurd rfl c0)
  refine bX10_partsAs_28 (pX10_starts h.2.2) ?_
  rintro _ rfl
  refine bX10_partsAs_34 (pX10_mNow (Vo.s (b := 13) h) hp) ?_
  rintro _ _ ⟨rfl, rfl⟩
  have e14 : (str im 13) 0 14 = nI p := (Vo.s (b := 13) h).2.1
  refine bX10_partsAs_38 (fun c => ?_) (fun c => ?_)
  · rw [e14] at c ⊢
    refine bX10_partsAs_53 ?_
    refine bX10_partsAs_54 rfl (Or.inl rfl) (fun c2 => ?_) (fun c2 => absurd c2 c)
    have hf : ptL 0 o (nI p) (s (9 + 4 * p)) = [13] := rfl
    have hb : b2i (s (9 + 4 * p) - nI p = 0) = 0 := b2i_f c
    refine bX10_partsAs_65 (fun c3 => ?_) (fun c3 => ?_)
    · refine bX10_partsAs_75 c ?_
      refine bX10_partsAs_78 ?_
      refine hQ _ _ ⟨?_, by rw [hb, hf]; rfl⟩
      show _ = ptB (nI p) (s (9 + 4 * p)) x0
      unfold ptB
      rw [if_neg c, if_neg c3]
    · refine bX10_partsAs_70 ?_
      refine bX10_partsAs_78 ?_
      refine hQ _ _ ⟨?_, by rw [hb, hf]; rfl⟩
      show _ = ptB (nI p) (s (9 + 4 * p)) x0
      unfold ptB
      rw [if_neg c, if_pos c3]
  · rw [e14] at c ⊢
    refine bX10_partsAs_49 ?_
    refine bX10_partsAs_54 rfl (Or.inr rfl) (fun c2 => absurd c c2) (fun c2 => ?_)
    have hf : ptL 0 o (nI p) (s (9 + 4 * p)) = [13] := rfl
    have hb : b2i (s (9 + 4 * p) - nI p = 0) = 1 := b2i_t c
    refine bX10_partsAs_61 ?_
    refine bX10_partsAs_78 ?_
    refine hQ _ _ ⟨?_, by rw [hb, hf]; rfl⟩
    show _ = ptB (nI p) (s (9 + 4 * p)) x0
    unfold ptB
    rw [if_pos c]
theorem pX10_partsAs_k1 {d : Nat} {im : XI} {s : Nat → Int32} {p o : Nat} {x0 : Int32} (h : Vo im s p) (hp : p < 6) (ho : s (8 + 4 * p) = nI o) (ho7 : o < 7) : SpI mX10_partsAs (d + 7) [.ref 0, .int 1, .int x0] SM im (fun x im' => x = ptV 1 o (nI p) (s (9 + 4 * p)) x0 ∧ im' = xup (trA im (ptL 1 o (nI p) (s (9 + 4 * p)))) 0 15 (b2i (s (9 + 4 * p) - nI p = 0))) := by
  refine SpI.of [some (.ref 0), some (.int 1), some (.int x0), none, none] rfl (by decide) rfl (fun Q hQ => ?_)
  refine bX10_partsAs_0 (fun c => absurd c (by decide)) (fun _ => ?_) (fun c0 c1 => absurd rfl c1)
  refine bX10_partsAs_79 (pX10_starts h.2.2) ?_
  rintro _ rfl
  refine bX10_partsAs_85 pX10_above ?_
  rintro _ _ ⟨rfl, rfl⟩
  rw [show abv 1 = 0 from by decide]
  refine bX10_partsAs_90 rfl (pX10_partsAs_k0 (Vo.s (b := 21) h) hp ho ho7) ?_
  rintro _ _ ⟨rfl, rfl⟩
  refine bX10_partsAs_94 (fun c => ?_) (fun c => ?_)
  · rw [xup_at, b2i_z] at c
    have hb : b2i (s (9 + 4 * p) - nI p = 0) = 0 := b2i_f c
    have hv : Vo (xup (trA (str im 21) [13]) 0 15 (b2i (s (9 + 4 * p) - nI p = 0))) s p := Vo.p (Vo.t (Vo.s (b := 21) h))
    refine bX10_partsAs_107 (pX10_kindNow hv hp) ?_
    rintro _ _ ⟨rfl, rfl⟩
    rw [ho]
    refine bX10_partsAs_114 rfl (pX10_movesAs ho7 hv hp ho ho7) ?_
    rintro _ _ ⟨rfl, rfl⟩
    refine bX10_partsAs_118 ?_
    refine bX10_partsAs_119 ?_
    refine hQ _ _ ⟨?_, ?_⟩
    · unfold ptV
      rw [if_neg (c := 0 = 1 ∨ 0 = 4) (by decide), if_pos (c := 1 = 1 ∨ 1 = 4) (by decide), if_neg c]
    · rw [trA_c]
      congr 1
      unfold ptL
      rw [if_pos (c := 1 = 1 ∨ 1 = 4) (by decide), if_neg c]
      rfl
  · rw [xup_at, b2i_nz] at c
    refine bX10_partsAs_103 ?_
    refine bX10_partsAs_119 ?_
    refine hQ _ _ ⟨?_, ?_⟩
    · unfold ptV
      rw [if_pos (c := 1 = 1 ∨ 1 = 4) (by decide), if_pos c]
    · congr 1
      unfold ptL
      rw [if_pos (c := 1 = 1 ∨ 1 = 4) (by decide), if_pos c]
      rfl
theorem pX10_partsAs_k2 {d : Nat} {im : XI} {s : Nat → Int32} {p o : Nat} {x0 : Int32} (h : Vo im s p) (hp : p < 6) (ho : s (8 + 4 * p) = nI o) (ho7 : o < 7) : SpI mX10_partsAs (d + 7) [.ref 0, .int 2, .int x0] SM im (fun x im' => x = ptV 2 o (nI p) (s (9 + 4 * p)) x0 ∧ im' = xup (trA im (ptL 2 o (nI p) (s (9 + 4 * p)))) 0 15 (b2i (s (9 + 4 * p) - nI p = 0))) := by
  refine SpI.of [some (.ref 0), some (.int 2), some (.int x0), none, none] rfl (by decide) rfl (fun Q hQ => ?_)
  refine bX10_partsAs_0 (fun c => absurd c (by decide)) (fun c => absurd c (by decide)) (fun _ _ => ?_)
  refine bX10_partsAs_120 pX10_above ?_
  rintro _ _ ⟨rfl, rfl⟩
  rw [show abv 2 = 0 from by decide]
  refine bX10_partsAs_125 rfl (pX10_partsAs_k0 h hp ho ho7) ?_
  rintro _ _ ⟨rfl, rfl⟩
  refine bX10_partsAs_129 ?_
  exact hQ _ _ ⟨rfl, rfl⟩
theorem pX10_partsAs_k3 {d : Nat} {im : XI} {s : Nat → Int32} {p o : Nat} {x0 : Int32} (h : Vo im s p) (hp : p < 6) (ho : s (8 + 4 * p) = nI o) (ho7 : o < 7) : SpI mX10_partsAs (d + 7) [.ref 0, .int 3, .int x0] SM im (fun x im' => x = ptV 3 o (nI p) (s (9 + 4 * p)) x0 ∧ im' = xup (trA im (ptL 3 o (nI p) (s (9 + 4 * p)))) 0 15 (b2i (s (9 + 4 * p) - nI p = 0))) := by
  refine SpI.of [some (.ref 0), some (.int 3), some (.int x0), none, none] rfl (by decide) rfl (fun Q hQ => ?_)
  refine bX10_partsAs_0 (fun c => absurd c (by decide)) (fun c => absurd c (by decide)) (fun _ _ => ?_)
  refine bX10_partsAs_120 pX10_above ?_
  rintro _ _ ⟨rfl, rfl⟩
  rw [show abv 3 = 0 from by decide]
  refine bX10_partsAs_125 rfl (pX10_partsAs_k0 h hp ho ho7) ?_
  rintro _ _ ⟨rfl, rfl⟩
  refine bX10_partsAs_129 ?_
  exact hQ _ _ ⟨rfl, rfl⟩
theorem pX10_partsAs_k6 {d : Nat} {im : XI} {s : Nat → Int32} {p o : Nat} {x0 : Int32} (h : Vo im s p) (hp : p < 6) (ho : s (8 + 4 * p) = nI o) (ho7 : o < 7) : SpI mX10_partsAs (d + 7) [.ref 0, .int 6, .int x0] SM im (fun x im' => x = ptV 6 o (nI p) (s (9 + 4 * p)) x0 ∧ im' = xup (trA im (ptL 6 o (nI p) (s (9 + 4 * p)))) 0 15 (b2i (s (9 + 4 * p) - nI p = 0))) := by
  refine SpI.of [some (.ref 0), some (.int 6), some (.int x0), none, none] rfl (by decide) rfl (fun Q hQ => ?_)
  refine bX10_partsAs_0 (fun c => absurd c (by decide)) (fun c => absurd c (by decide)) (fun _ _ => ?_)
  refine bX10_partsAs_120 pX10_above ?_
  rintro _ _ ⟨rfl, rfl⟩
  rw [show abv 6 = 0 from by decide]
  refine bX10_partsAs_125 rfl (pX10_partsAs_k0 h hp ho ho7) ?_
  rintro _ _ ⟨rfl, rfl⟩
  refine bX10_partsAs_129 ?_
  exact hQ _ _ ⟨rfl, rfl⟩
theorem pX10_partsAs_k4 {d : Nat} {im : XI} {s : Nat → Int32} {p o : Nat} {x0 : Int32} (h : Vo im s p) (hp : p < 6) (ho : s (8 + 4 * p) = nI o) (ho7 : o < 7) : SpI mX10_partsAs (d + 8) [.ref 0, .int 4, .int x0] SM im (fun x im' => x = ptV 4 o (nI p) (s (9 + 4 * p)) x0 ∧ im' = xup (trA im (ptL 4 o (nI p) (s (9 + 4 * p)))) 0 15 (b2i (s (9 + 4 * p) - nI p = 0))) := by
  refine SpI.of [some (.ref 0), some (.int 4), some (.int x0), none, none] rfl (by decide) rfl (fun Q hQ => ?_)
  refine bX10_partsAs_0 (fun c => absurd c (by decide)) (fun c => absurd c (by decide)) (fun _ _ => ?_)
  refine bX10_partsAs_120 pX10_above ?_
  rintro _ _ ⟨rfl, rfl⟩
  rw [show abv 4 = 1 from by decide]
  refine bX10_partsAs_125 rfl (pX10_partsAs_k1 h hp ho ho7) ?_
  rintro _ _ ⟨rfl, rfl⟩
  refine bX10_partsAs_129 ?_
  exact hQ _ _ ⟨rfl, rfl⟩
theorem pX10_partsAs_k5 {d : Nat} {im : XI} {s : Nat → Int32} {p o : Nat} {x0 : Int32} (h : Vo im s p) (hp : p < 6) (ho : s (8 + 4 * p) = nI o) (ho7 : o < 7) : SpI mX10_partsAs (d + 8) [.ref 0, .int 5, .int x0] SM im (fun x im' => x = ptV 5 o (nI p) (s (9 + 4 * p)) x0 ∧ im' = xup (trA im (ptL 5 o (nI p) (s (9 + 4 * p)))) 0 15 (b2i (s (9 + 4 * p) - nI p = 0))) := by
  refine SpI.of [some (.ref 0), some (.int 5), some (.int x0), none, none] rfl (by decide) rfl (fun Q hQ => ?_)
  refine bX10_partsAs_0 (fun c => absurd c (by decide)) (fun c => absurd c (by decide)) (fun _ _ => ?_)
  refine bX10_partsAs_120 pX10_above ?_
  rintro _ _ ⟨rfl, rfl⟩
  rw [show abv 5 = 2 from by decide]
  refine bX10_partsAs_125 rfl (pX10_partsAs_k2 h hp ho ho7) ?_
  rintro _ _ ⟨rfl, rfl⟩
  refine bX10_partsAs_129 ?_
  exact hQ _ _ ⟨rfl, rfl⟩
theorem pX10_partsAs {d : Nat} {im : XI} {s : Nat → Int32} {p o : Nat} {x0 : Int32} {k : Nat} (hk : k < 7) (h : Vo im s p) (hp : p < 6) (ho : s (8 + 4 * p) = nI o) (ho7 : o < 7) : SpI mX10_partsAs (d + 8) [.ref 0, .int (nI k), .int x0] SM im (fun x im' => x = ptV k o (nI p) (s (9 + 4 * p)) x0 ∧ im' = xup (trA im (ptL k o (nI p) (s (9 + 4 * p)))) 0 15 (b2i (s (9 + 4 * p) - nI p = 0))) := by
  match k, hk with
  | 0, _ => exact pX10_partsAs_k0 (d := d + 6) h hp ho ho7
  | 1, _ => exact pX10_partsAs_k1 (d := d + 1) h hp ho ho7
  | 2, _ => exact pX10_partsAs_k2 (d := d + 1) h hp ho ho7
  | 3, _ => exact pX10_partsAs_k3 (d := d + 1) h hp ho ho7
  | 4, _ => exact pX10_partsAs_k4 (d := d + 0) h hp ho ho7
  | 5, _ => exact pX10_partsAs_k5 (d := d + 0) h hp ho ho7
  | 6, _ => exact pX10_partsAs_k6 (d := d + 1) h hp ho ho7

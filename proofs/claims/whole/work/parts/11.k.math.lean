theorem fbit : ∀ (n p : Fin 6) (b : Bool), n ≠ p → ((if b = true then (1 : Int32) else 0) <<< (nI n.1 &&& 31)) &&& ((1 <<< (nI p.1 &&& 31)) ^^^ -1) = (if b = true then (1 : Int32) else 0) <<< (nI n.1 &&& 31) := by decide +kernel
theorem fbit2 : ∀ (p : Fin 6) (b : Bool), ((if b = true then (1 : Int32) else 0) <<< (nI p.1 &&& 31)) &&& ((1 <<< (nI p.1 &&& 31)) ^^^ -1) = 0 ∧ ((if b = true then (1 : Int32) else 0) <<< (nI p.1 &&& 31)) ||| (1 <<< (nI p.1 &&& 31)) = 1 <<< (nI p.1 &&& 31) := by decide +kernel
theorem b01_ex {b : Int32} (h : b = 0 ∨ b = 1) : ∃ c : Bool, b = if c = true then (1 : Int32) else 0 := by
  rcases h with rfl | rfl
  · exact ⟨false, rfl⟩
  · exact ⟨true, rfl⟩
theorem bit_ne {b : Int32} {n p : Nat} (hb : b = 0 ∨ b = 1) (hn : n < 6) (hp : p < 6) (h : n ≠ p) : (b <<< (nI n &&& 31)) &&& ((1 <<< (nI p &&& 31)) ^^^ -1) = b <<< (nI n &&& 31) := by
  obtain ⟨c, rfl⟩ := b01_ex hb
  exact fbit ⟨n, hn⟩ ⟨p, hp⟩ c (fun e => h (congrArg Fin.val e))
theorem bit_eq {b : Int32} {p : Nat} (hb : b = 0 ∨ b = 1) (hp : p < 6) : (b <<< (nI p &&& 31)) &&& ((1 <<< (nI p &&& 31)) ^^^ -1) = 0 ∧ (b <<< (nI p &&& 31)) ||| (1 <<< (nI p &&& 31)) = 1 <<< (nI p &&& 31) := by
  obtain ⟨c, rfl⟩ := b01_ex hb
  exact fbit2 ⟨p, hp⟩ c
theorem shutT_01 (s : Nat → Int32) (t : Int32) (q : Nat) : shutT s t q = 0 ∨ shutT s t q = 1 := shutG_01 _ _ _ _ _
theorem allTN_hi (s : Nat → Int32) (t : Int32) {p : Nat} (hp : p < 6) : ∀ n, n ≤ p → allTN s t n &&& ((1 <<< (nI p &&& 31)) ^^^ -1) = allTN s t n := by
  intro n
  induction n with
  | zero => intro _; show (0 : Int32) &&& _ = 0; rw [Int32.and_comm, Int32.and_zero]
  | succ n ih =>
    intro hn
    show (allTN s t n ||| (shutT s t n <<< (nI n &&& 31))) &&& _ = _
    rw [or_and_d, ih (by omega), bit_ne (n := n) (shutT_01 s t n) (by omega) hp (by omega)]
    rfl
theorem shutT_p {s : Nat → Int32} {t v : Int32} {p q : Nat} (h : q ≠ p) (hp : p < 6) : shutT (upd s (11 + 4 * p) v) t q = shutT s t q := by
  unfold shutT
  rw [shutG_c (fun k hk => upd_ne (by omega)) (upd_ne (by omega)) (upd_ne (by omega)), upd_ne (by omega), upd_ne (by omega)]
theorem shutT_pp {s : Nat → Int32} {t v : Int32} {p : Nat} (hp : p < 6) : shutT (upd s (11 + 4 * p) v) t p = shutG s p t (s (10 + 4 * p)) v := by
  unfold shutT
  rw [shutG_c (fun k hk => upd_ne (by omega)) (upd_ne (by omega)) (upd_ne (by omega)), upd_ne (by omega), upd_at]
theorem allTN_lo {s : Nat → Int32} {t v : Int32} {p : Nat} (hp : p < 6) : ∀ n, n ≤ p → allTN (upd s (11 + 4 * p) v) t n = allTN s t n := by
  intro n
  induction n with
  | zero => intro _; rfl
  | succ n ih =>
    intro hn
    unfold allTN
    rw [ih (by omega), shutT_p (by omega) hp]
theorem allTN_p {s : Nat → Int32} {t v : Int32} {p : Nat} (hp : p < 6) : ∀ n, p < n → n ≤ 6 → allTN (upd s (11 + 4 * p) v) t n = if shutG s p t (s (10 + 4 * p)) v = 1 then allTN s t n ||| (1 <<< (nI p &&& 31)) else allTN s t n &&& ((1 <<< (nI p &&& 31)) ^^^ -1) := by
  intro n
  induction n with
  | zero => intro h; omega
  | succ n ih =>
    intro hn hn6
    have e1 : allTN (upd s (11 + 4 * p) v) t (n + 1) = allTN (upd s (11 + 4 * p) v) t n ||| (shutT (upd s (11 + 4 * p) v) t n <<< (nI n &&& 31)) := rfl
    have e2 : allTN s t (n + 1) = allTN s t n ||| (shutT s t n <<< (nI n &&& 31)) := rfl
    rw [e1, e2]
    by_cases hnp : n = p
    · subst hnp
      rw [allTN_lo hp n (by omega), shutT_pp hp]
      obtain ⟨b1, b2⟩ := bit_eq (b := shutT s t n) (p := n) (shutG_01 _ _ _ _ _) hp
      by_cases c : shutG s n t (s (10 + 4 * n)) v = 1
      · rw [if_pos c, c, Int32.or_assoc, b2]
      · rw [if_neg c, (shutG_01 s n t (s (10 + 4 * n)) v).resolve_right c, Int32.zero_shiftLeft, Int32.or_zero, or_and_d, b1, Int32.or_zero, allTN_hi s t hp n (by omega)]
    · rw [ih (by omega) (by omega), shutT_p hnp hp]
      by_cases c : shutG s p t (s (10 + 4 * p)) v = 1
      · rw [if_pos c, if_pos c, Int32.or_assoc, Int32.or_assoc, Int32.or_comm ((1 : Int32) <<< (nI p &&& 31))]
      · rw [if_neg c, if_neg c, or_and_d, bit_ne (n := n) (shutT_01 s t n) (by omega) hp hnp]
theorem allT_p {s : Nat → Int32} {np nd p : Nat} {t v v1 : Int32} (hI : Iv s np nd) (hp : p < np) : allT (upd s (11 + 4 * p) v) t = if shutG s p t (s (10 + 4 * p)) v = 1 then allT (upd s (11 + 4 * p) v1) t ||| (1 <<< (nI p &&& 31)) else allT (upd s (11 + 4 * p) v1) t &&& ((1 <<< (nI p &&& 31)) ^^^ -1) := by
  have hnp := hI.1.1
  unfold allT
  rw [upd_ne (by omega), upd_ne (by omega), nnp hI]
  have := allTN_p (s := upd s (11 + 4 * p) v1) (t := t) (v := v) (p := p) (by omega) np hp hnp
  rw [upd_upd, upd_ne (j := 10 + 4 * p) (by omega), shutG_c (fun k hk => upd_ne (by omega)) (upd_ne (by omega)) (upd_ne (by omega))] at this
  exact this
theorem stepL_p {s : Nat → Int32} {np nd p e : Nat} {v w l sh : Int32} (hI : Iv s np nd) (hp : p < 6) (he : e < nd) : stepL (upd s (11 + 4 * p) v) e w l sh = stepL s e w l sh := by
  have hnd := hI.2.1.1
  obtain ⟨⟨a, ha0, ha⟩, -⟩ := hI.2.1.2.2 e he
  have hnp := hI.1.1
  have e1 : onB (upd s (11 + 4 * p) v) e sh l = onB s e sh l := by
    unfold onB
    rw [on0_c (fun k hk => upd_ne (by omega)), upd_ne (j := 32 + 3 * e) (by omega), ha, nnat_nI (by omega), upd_ne (j := 8 + 4 * a) (by omega), upd_ne (j := 9 + 4 * a) (by omega), upd_ne (j := 5) (by omega)]
  unfold stepL
  rw [e1]
theorem awayN_nat {w : Int32} {c : Int32 → Int32} : ∀ n : Nat, awayN w c n = -1 ∨ ∃ g, g < n ∧ awayN w c n = nI g := by
  intro n
  induction n with
  | zero => exact Or.inl rfl
  | succ n ih =>
    unfold awayN
    split
    · exact Or.inr ⟨n, by omega, rfl⟩
    · rcases ih with h | ⟨g, hg, h⟩
      · exact Or.inl h
      · exact Or.inr ⟨g, by omega, h⟩
theorem nI_neg {n : Nat} (h : n < 2 ^ 31) : ¬ nI n < 0 := nI_pos h

-- ===== what is only thought =====
theorem evN_c {s s' : Nat → Int32} {b : Nat} {nm : Int32 → Int32} (hb : 50 ≤ b) (h : ∀ k, 50 ≤ k → s' k = s k) (n : Nat) : evN s' b nm n = evN s b nm n ∧ wl s' b n = wl s b n := by
  induction n with
  | zero => exact ⟨rfl, rfl⟩
  | succ n ih =>
    refine ⟨?_, ?_⟩
    · show ev1 (s' (b + 1 + 2 * n)) (s' (b + 2 + 2 * n)) nm (wl s' b n) (evN s' b nm n) = ev1 (s (b + 1 + 2 * n)) (s (b + 2 + 2 * n)) nm (wl s b n) (evN s b nm n)
      rw [ih.1, ih.2, h _ (by omega), h _ (by omega)]
    · unfold wl
      rw [ih.2, h _ (by omega)]
theorem work0_c {s s' : Nat → Int32} {u : Nat} {a b c : Int32} (h : ∀ k, 50 ≤ k → s' k = s k) : work0 s' u a b c = work0 s u a b c := by
  unfold work0
  rw [h _ (by omega), (evN_c (by omega) h _).1]
theorem told0_c {s s' : Nat → Int32} {a b c : Int32} (h : ∀ k, 50 ≤ k → s' k = s k) : told0 s' a b c = told0 s a b c := by
  unfold told0
  rw [h 50 (by omega), work0_c h]
theorem on0_c {s s' : Nat → Int32} {a b c : Int32} (h : ∀ k, 50 ≤ k → s' k = s k) : on0 s' a b c = on0 s a b c := by
  unfold on0
  rw [h 175 (by omega), work0_c h]
theorem shutG_c {s s' : Nat → Int32} {p : Nat} {t b f : Int32} (h : ∀ k, 50 ≤ k → s' k = s k) (h8 : s' (8 + 4 * p) = s (8 + 4 * p)) (h9 : s' (9 + 4 * p) = s (9 + 4 * p)) : shutG s' p t b f = shutG s p t b f := by
  unfold shutG
  rw [told0_c h, h8, h9]
def shutT (s : Nat → Int32) (t : Int32) (p : Nat) : Int32 := shutG s p t (s (10 + 4 * p)) (s (11 + 4 * p))
def allTN (s : Nat → Int32) (t : Int32) : Nat → Int32
  | 0 => 0
  | n + 1 => allTN s t n ||| (shutT s t n <<< (nI n &&& 31))
def allT (s : Nat → Int32) (t : Int32) : Int32 := allTN s t (nnat (s 4))
theorem shutN_T (s : Nat → Int32) (n : Nat) : shutN s n = allTN s (s 0) n := by
  induction n with
  | zero => rfl
  | succ n ih => unfold shutN allTN; rw [ih]; rfl
theorem shutAll_T (s : Nat → Int32) : shutAll s = allT s (s 0) := shutN_T s _
theorem allTN_c {s s' : Nat → Int32} {t : Int32} {n : Nat} (h : ∀ k, 50 ≤ k → s' k = s k) (hp : ∀ p, p < n → s' (8 + 4 * p) = s (8 + 4 * p) ∧ s' (9 + 4 * p) = s (9 + 4 * p) ∧ s' (10 + 4 * p) = s (10 + 4 * p) ∧ s' (11 + 4 * p) = s (11 + 4 * p)) : allTN s' t n = allTN s t n := by
  induction n with
  | zero => rfl
  | succ n ih =>
    unfold allTN shutT
    obtain ⟨a, b, c, d⟩ := hp n (by omega)
    rw [ih (fun p hp' => hp p (by omega)), shutG_c h a b, c, d]
/-- how much a doing with l parts left gets on by -/
def onB (s : Nat → Int32) (d : Nat) (sh l : Int32) : Int32 :=
  on0 s (tries0 (s (8 + 4 * nnat (s (32 + 3 * d)))) (s (9 + 4 * nnat (s (32 + 3 * d)))) (s 5)) (many0 (sh &&& ((1 <<< (s (32 + 3 * d) &&& 31)) ^^^ (-1))) 6) l
def stepL (s : Nat → Int32) (d : Nat) (w l sh : Int32) : Int32 := if l = 0 ∨ ¬ (w &&& (sh ^^^ (-1))) = 0 then l else held0 (l - onB s d sh l) 0 99
def leftN (s : Nat → Int32) (d : Nat) (w t : Int32) : Nat → Int32
  | 0 => s (33 + 3 * d)
  | k + 1 => stepL s d w (leftN s d w t k) (allT s (t + nI k))
def firstP (c : Nat → Int32) (v : Int32) : Nat → Nat → Int32
  | 0, _ => -1
  | f + 1, k => if c k = v then nI k else firstP c v f (k + 1)
def sumF (c : Nat → Int32) : Nat → Int32
  | 0 => 0
  | k + 1 => sumF c k + c k
/-- the row behind k ticks of one doing alone -/
def rowK (s : Nat → Int32) (d : Nat) (k : Nat) : Nat → Int32 := upd (upd s (33 + 3 * d) (leftN s d (s (34 + 3 * d)) (s 0) k)) 0 (s 0 + nI k)
theorem allT_K {s : Nat → Int32} {np nd d k : Nat} (hI : Iv s np nd) (hd : d < nd) : shutAll (rowK s d k) = allT s (s 0 + nI k) := by
  have hnd := hI.2.1.1
  have hnp := hI.1.1
  have h4 := hI.1.2.1
  rw [shutAll_T]
  have e0 : rowK s d k 0 = s 0 + nI k := upd_at
  have e4 : rowK s d k 4 = s 4 := by unfold rowK; rw [upd_ne (by omega), upd_ne (by omega)]
  unfold allT
  rw [e0, e4, h4, nnat_nI (by omega)]
  apply allTN_c
  · intro j hj; unfold rowK; rw [upd_ne (by omega), upd_ne (by omega)]
  · intro p hp; unfold rowK
    refine ⟨?_, ?_, ?_, ?_⟩ <;> rw [upd_ne (by omega), upd_ne (by omega)]
theorem on1_K {s : Nat → Int32} {np nd d k : Nat} {sh : Int32} (hI : Iv s np nd) (hd : d < nd) : on1 (rowK s d k) d sh = stepL s d (s (34 + 3 * d)) (leftN s d (s (34 + 3 * d)) (s 0) k) sh := by
  have hnd := hI.2.1.1
  have hnp := hI.1.1
  obtain ⟨⟨w, hw0, hw⟩, -⟩ := hI.2.1.2.2 d hd
  have e3 : rowK s d k (33 + 3 * d) = leftN s d (s (34 + 3 * d)) (s 0) k := by unfold rowK; rw [upd_ne (by omega), upd_at]
  have eo : ∀ j, j ≠ 0 → j ≠ 33 + 3 * d → rowK s d k j = s j := by intro j h1 h2; unfold rowK; rw [upd_ne h1, upd_ne h2]
  unfold on1 stepL onBy0 onB
  rw [e3, eo (34 + 3 * d) (by omega) (by omega), eo (32 + 3 * d) (by omega) (by omega), hw, nnat_nI (by omega), eo (8 + 4 * w) (by omega) (by omega), eo (9 + 4 * w) (by omega) (by omega), eo 5 (by omega) (by omega), on0_c (fun j hj => eo j (by omega) (by omega))]
theorem leftN_nat {s : Nat → Int32} {np nd d : Nat} {w t : Int32} (hI : Iv s np nd) (hd : d < nd) (k : Nat) : ∃ q : Nat, q ≤ 99 ∧ leftN s d w t k = nI q := by
  induction k with
  | zero => exact (hI.2.1.2.2 d hd).2.1
  | succ k ih =>
    unfold leftN stepL
    split
    · exact ih
    · exact held_nat _ rfl (by decide)
theorem rowK_s {s : Nat → Int32} {np nd d k : Nat} (hI : Iv s np nd) (hd : d < nd) : upd (upd (rowK s d k) (33 + 3 * d) (on1 (rowK s d k) d (shutAll (rowK s d k)))) 0 (upd (rowK s d k) (33 + 3 * d) (on1 (rowK s d k) d (shutAll (rowK s d k))) 0 + 1) = rowK s d (k + 1) := by
  rw [allT_K hI hd, on1_K hI hd]
  have e0 : rowK s d k 0 = s 0 + nI k := upd_at
  rw [upd_ne (by omega), e0, Int32.add_assoc, nI_1]
  funext j
  unfold rowK
  by_cases h0 : j = 0
  · subst h0; rw [upd_at, upd_at]
  · rw [upd_ne h0, upd_ne h0]
    by_cases h3 : j = 33 + 3 * d
    · subst h3; rw [upd_at, upd_at]; rfl
    · rw [upd_ne h3, upd_ne h3, upd_ne h0, upd_ne h3]
theorem rowK_0 {s : Nat → Int32} {d : Nat} : rowK s d 0 = s := by
  unfold rowK leftN
  rw [upd_self rfl, upd_self (show s 0 = s 0 + nI 0 by rw [nI_0, Int32.add_zero])]
theorem rowK_Iv {s : Nat → Int32} {np nd d : Nat} (hI : Iv s np nd) (hd : d < nd) (k : Nat) : Iv (rowK s d k) np nd := by
  obtain ⟨q, hq, he⟩ := leftN_nat (w := s (34 + 3 * d)) (t := s 0) hI hd k
  unfold rowK
  rw [he]
  have hnd := hI.2.1.1
  exact Iv_free (Iv_parts hI (by omega) hq) (Or.inl rfl)
theorem rowK_50 {s : Nat → Int32} {d k j : Nat} (hj : 50 ≤ j) (hd : d < 6) : rowK s d k j = s j := by
  unfold rowK; rw [upd_ne (by omega), upd_ne (by omega)]
def momB (s : Nat → Int32) (set t : Int32) (p : Nat) : Prop := ((set >>> (nI p &&& 31)) &&& 1) = 0 ∨ shutT s t p = 1
def momN (s : Nat → Int32) (set t : Int32) : Nat → Int32
  | 0 => 1
  | k + 1 => if momN s set t k = 0 then 0 else if ((set >>> (nI k &&& 31)) &&& 1) = 0 ∨ shutT s t k = 1 then 1 else 0
def mom0 (s : Nat → Int32) (set t : Int32) : Int32 := momN s set t (nnat (s 4))
theorem momN_01 (s : Nat → Int32) (set t : Int32) (n : Nat) : momN s set t n = 0 ∨ momN s set t n = 1 := by
  cases n with
  | zero => exact Or.inr rfl
  | succ n =>
    unfold momN
    split
    · exact Or.inl rfl
    · split
      · exact Or.inr rfl
      · exact Or.inl rfl
theorem momN_z {s : Nat → Int32} {set t : Int32} {n m : Nat} (h : momN s set t n = 0) (hm : n ≤ m) : momN s set t m = 0 := by
  induction m with
  | zero => have : n = 0 := by omega
            subst this; exact h
  | succ m ih =>
    by_cases e : n = m + 1
    · subst e; exact h
    · unfold momN
      rw [if_pos (ih (by omega))]
theorem shutT_0 {s : Nat → Int32} {t v : Int32} {p : Nat} : shutT (upd s 0 v) t p = shutT s t p := by
  unfold shutT
  rw [shutG_c (fun k hk => upd_ne (by omega)) (upd_ne (by omega)) (upd_ne (by omega)), upd_ne (by omega), upd_ne (by omega)]
theorem shut0_T {s : Nat → Int32} {p : Nat} : shut0 s p = shutT s (s 0) p := rfl
theorem mom_0 {s : Nat → Int32} {set t v : Int32} {n : Nat} : momN (upd s 0 v) set t n = momN s set t n := by
  induction n with
  | zero => rfl
  | succ n ih => unfold momN; rw [ih, shutT_0]
def fitN (s : Nat → Int32) (p : Nat) (num : Nat → Int32) (t b f : Int32) : Nat → Int32
  | 0 => 1
  | k + 1 => if fitN s p num t b f k = 0 then 0 else if shutG s p (t + nI k) b f = num k then 1 else 0
theorem fitN_01 (s : Nat → Int32) (p : Nat) (num : Nat → Int32) (t b f : Int32) (n : Nat) : fitN s p num t b f n = 0 ∨ fitN s p num t b f n = 1 := by
  cases n with
  | zero => exact Or.inr rfl
  | succ n =>
    unfold fitN
    split
    · exact Or.inl rfl
    · split
      · exact Or.inr rfl
      · exact Or.inl rfl
theorem fitN_z {s : Nat → Int32} {p : Nat} {num : Nat → Int32} {t b f : Int32} {n m : Nat} (h : fitN s p num t b f n = 0) (hm : n ≤ m) : fitN s p num t b f m = 0 := by
  induction m with
  | zero => have : n = 0 := by omega
            subst this; exact h
  | succ m ih =>
    by_cases e : n = m + 1
    · subst e; exact h
    · unfold fitN
      rw [if_pos (ih (by omega))]
def rowC (c : Nat → Nat → Int32) (b : Nat) : Nat → Int32
  | 0 => 0
  | f + 1 => rowC c b f + c b f
def rowF (c : Nat → Nat → Int32) (b : Nat) : Nat → Int32
  | 0 => -1
  | f + 1 => if ¬ rowF c b f = -1 then rowF c b f else if c b f = 0 then -1 else nI (100 * b + f)
def totC (c : Nat → Nat → Int32) : Nat → Int32
  | 0 => 0
  | b + 1 => totC c b + rowC c (b + 1) (b + 1)
def totF (c : Nat → Nat → Int32) : Nat → Int32
  | 0 => -1
  | b + 1 => if ¬ totF c b = -1 then totF c b else rowF c (b + 1) (b + 1)
/-- which of the watchers' sets is best among the first n -/
def awayN (w : Int32) (c : Int32 → Int32) : Nat → Int32
  | 0 => -1
  | n + 1 => if ((nI n &&& (w ^^^ (-1))) = 0 ∧ (awayN w c n = -1 ∨ many0 (nI n) 6 < many0 (awayN w c n) 6)) ∧ ¬ c (nI n) = -1 then nI n else awayN w c n
/-- phases: the best among the first n, and behind how many -/
def phN (c : Nat → Int32) : Nat → Int32 × Int32
  | 0 => (-1, 100)
  | n + 1 => if ¬ c n = -1 ∧ c n < (phN c n).2 then (nI n, c n) else phN c n
-- the calls
def opThen (s : Nat → Int32) (v n : Int32) : R3 := if ¬ (okD s v ∧ (0 ≤ n ∧ n ≤ 200)) then rE 1 s else rO (leftN s (nnat v) (s (34 + 3 * nnat v)) (s 0) (nnat n)) s
def done0 (s : Nat → Int32) (d : Nat) (w : Int32) (most : Nat) : Int32 := firstP (leftN s d w (s 0)) 0 (most + 1) 0
def opSoonest (s : Nat → Int32) (v : Int32) : R3 := if ¬ okD s v then rE 1 s else if done0 s (nnat v) (s (34 + 3 * nnat v)) 200 = -1 then rE 2 s else rO (done0 s (nnat v) (s (34 + 3 * nnat v)) 200) s
def moment0 (s : Nat → Int32) (set : Int32) : Int32 := firstP (fun k => mom0 s set (s 0 + nI k)) 1 401 0
def opMoment (s : Nat → Int32) (set : Int32) : R3 := if ¬ okSet s set then rE 1 s else if moment0 s set = -1 then rE 2 s else rO (moment0 s set) s
def moms0 (s : Nat → Int32) (set : Int32) (n : Nat) : Int32 := sumF (fun k => mom0 s set (s 0 + nI k)) n
def opMoments (s : Nat → Int32) (set n : Int32) : R3 := if ¬ (okSet s set ∧ (0 ≤ n ∧ n ≤ 99)) then rE 1 s else rO (moms0 s set (nnat n)) s
def away0 (s : Nat → Int32) (d n : Nat) : Int32 := awayN (s (34 + 3 * d)) (fun g => done0 s d (s (34 + 3 * d) &&& (g ^^^ (-1))) n) (nnat (s (34 + 3 * d)) + 1)
def opAway (s : Nat → Int32) (v n w : Int32) : R3 := if ¬ (okD s v ∧ (0 ≤ n ∧ n ≤ 99) ∧ (0 ≤ w ∧ w ≤ 1)) then rE 1 s else if away0 s (nnat v) (nnat n) = -1 then rE 2 s else rO (if w = 0 then many0 (away0 s (nnat v) (nnat n)) 6 else away0 s (nnat v) (nnat n)) s
def phase0 (s : Nat → Int32) (p d : Nat) : Int32 × Int32 := phN (fun f => done0 (upd s (11 + 4 * p) (nI f)) d (s (34 + 3 * d)) 99) (nnat (s (10 + 4 * p)))
def opPhaseFor (s : Nat → Int32) (v e w : Int32) : R3 := if ¬ (okP s v ∧ okD s e ∧ (0 ≤ w ∧ w ≤ 1)) then rE 1 s else if (phase0 s (nnat v) (nnat e)).1 = -1 then rE 2 s else rO (if w = 0 then (phase0 s (nnat v) (nnat e)).1 else (phase0 s (nnat v) (nnat e)).2) s
def gcd0 (x y : Int32) : Int32 := nI (Nat.gcd (nnat x) (nnat y))
def opOdds (s : Nat → Int32) (set n w : Int32) : R3 := if ¬ (okSet s set ∧ (1 ≤ n ∧ n ≤ 99) ∧ (0 ≤ w ∧ w ≤ 1)) then rE 1 s else rO (if w = 0 then moms0 s set (nnat n) / gcd0 (moms0 s set (nnat n)) n else n / gcd0 (moms0 s set (nnat n)) n) s
def fit0 (s : Nat → Int32) (p : Nat) (num : Nat → Int32) (z : Nat) (b f : Nat) : Int32 := fitN s p num (s 0) (nI b) (nI f) z
theorem und0 {x k : Int32} (h : x = k ∨ x = 0) : x = k ↔ under0 x k := by
  constructor
  · exact Or.inl
  · rintro (e | ⟨h0, -⟩)
    · exact e
    · rcases h with h | h
      · exact h
      · exact absurd h h0
theorem und1 {x k : Int32} (h : ¬ (x = k ∨ x = 0)) (h2 : abv x = k ∨ abv x = 0) : abv x = k ↔ under0 x k := by
  have hk : ¬ x = k := fun e => h (Or.inl e)
  have h0 : ¬ x = 0 := fun e => h (Or.inr e)
  by_cases h4 : x = 4
  · subst h4
    have e : abv 4 = 1 := rfl
    rw [e] at h2 ⊢
    have e1 : (1 : Int32) = k := h2.resolve_right (by decide)
    exact ⟨fun _ => Or.inr ⟨h0, Or.inl ⟨rfl, e1.symm⟩⟩, fun _ => e1⟩
  · by_cases h5 : x = 5
    · subst h5
      have e : abv 5 = 2 := rfl
      rw [e] at h2 ⊢
      have e1 : (2 : Int32) = k := h2.resolve_right (by decide)
      exact ⟨fun _ => Or.inr ⟨h0, Or.inr (Or.inl ⟨rfl, e1.symm⟩)⟩, fun _ => e1⟩
    · have e : abv x = 0 := by unfold abv; rw [if_neg h4, if_neg h5]
      rw [e]
      refine ⟨fun h => Or.inr ⟨h0, Or.inr (Or.inr h.symm)⟩, ?_⟩
      rintro (h6 | ⟨-, ⟨h6, -⟩ | ⟨h6, -⟩ | h6⟩)
      · exact absurd h6 hk
      · exact absurd h6 h4
      · exact absurd h6 h5
      · exact h6.symm
theorem abv2 (x : Int32) : abv (abv x) = 0 := by
  unfold abv
  by_cases h4 : x = 4
  · rw [if_pos h4]; decide
  · by_cases h5 : x = 5
    · rw [if_neg h4, if_pos h5]; decide
    · rw [if_neg h4, if_neg h5]; decide
theorem und2 {x k : Int32} (h : ¬ (x = k ∨ x = 0)) (h2 : ¬ (abv x = k ∨ abv x = 0)) : abv (abv x) = k ↔ under0 x k := by
  have hk : ¬ x = k := fun e => h (Or.inl e)
  have h0 : ¬ x = 0 := fun e => h (Or.inr e)
  rw [abv2]
  refine ⟨fun h => Or.inr ⟨h0, Or.inr (Or.inr h.symm)⟩, ?_⟩
  rintro (h6 | ⟨-, ⟨h6, h7⟩ | ⟨h6, h7⟩ | h6⟩)
  · exact absurd h6 hk
  · subst h6; subst h7; exact absurd (Or.inl rfl) h2
  · subst h6; subst h7; exact absurd (Or.inl rfl) h2
  · exact h6.symm
def sumP (s : Nat → Int32) : Nat → Int32
  | 0 => 0
  | d + 1 => sumP s d + s (33 + 3 * d)
def opCount (s : Nat → Int32) (tr w : Int32) : R3 := if w = 0 then rO (s 4) s else if w = 1 then rO (s 5) s else if w = 2 then rO (s 0) s else if w = 3 then rO (sumP s (nnat (s 5))) s else if w = 4 then rO (s 2) s else if w = 5 then rO (s 3) s else if w = 6 then rO tr s else if w = 7 then rO (s 1) s else rE 1 s
def opTold (s : Nat → Int32) (e : Nat → Int32) (k : Int32) : R3 := if ¬ (1 ≤ k ∧ k ≤ 6) then rE 1 s else rO (e (nnat k)) s
def opUntell (s : Nat → Int32) (u : Int32) : R3 := if ¬ (0 ≤ u ∧ u ≤ 1) then rE 1 s else rO (if 0 < s (50 + 125 * nnat u) then 1 else 0) (upd s (50 + 125 * nnat u) 0)
def opTell (s : Nat → Int32) (v : Int32) : R3 := if s 3 = 24 then rE 4 s else rO (s 3 + 1) (upd (upd s (360 + nnat (s 3)) v) 3 (s 3 + 1))
def chk0 (s : Nat → Int32) (nd : Nat) : Nat → Nat → Int32
  | 0, _ => 0
  | f + 1, k => if k < nd ∧ s (360 + k) = s (33 + 3 * k) then chk0 s nd f (k + 1) else nI (1 + k)
def opCheck (s : Nat → Int32) : R3 := rO (chk0 s (nnat (s 5)) (nnat (s 3)) 0) (upd s 3 0)
def fd0 (s : Nat → Int32) (by0 : Nat → Int32) : Nat → Nat → Int32
  | 0 => s
  | k + 1 => upd (upd (fd0 s by0 k) (300 + (nnat (s 2) + k)) (by0 k)) 2 (nI (nnat (s 2) + (k + 1)))
def opFeed (s : Nat → Int32) (by0 : Nat → Int32) (n : Int32) : R3 := if ¬ (1 ≤ n ∧ n ≤ 8) then rE 1 s else if ¬ s 2 + n ≤ 60 then rE 4 s else rO (nI (nnat (s 2) + nnat n)) (fd0 s by0 (nnat n))
def byteM (w : Int64) (k : Nat) : Int32 := ((w >>> ((8 * nI k).toInt64 &&& 63)) &&& 255).toInt32
theorem ok_n {k n : Nat} (hk : k < 2 ^ 31) (hn : n < 2 ^ 31) : (0 ≤ nI k ∧ nI k ≤ nI n - 1) ↔ k < n := by
  rw [in_n hn]
  constructor
  · rintro ⟨i, hi, he⟩
    rw [nI_eq hk (by omega)] at he
    omega
  · intro h
    exact ⟨k, h, rfl⟩
theorem fd0_2 {s : Nat → Int32} {by0 : Nat → Int32} {n : Nat} (h : s 2 = nI n) (hn : n ≤ 60) (k : Nat) : fd0 s by0 k 2 = nI (n + k) := by
  cases k with
  | zero => exact h
  | succ k => unfold fd0; rw [upd_at, h, nnat_nI (by omega)]
theorem lay_3 {im im1 : XI} {s : Nat → Int32} (hs : im 1 = s) (h : mk (ovl im 3 1 50) im1) {q : Nat} (hq : q < 50) : im1 3 q = s q := by
  rw [h 3 q (by simp [mgb])]
  simp only [ovl, hq, and_self, if_true, hs]
theorem back_s {im1 : XI} {s s1 : Nat → Int32} (h3 : ∀ q, q < 50 → im1 3 q = s q) (hs1 : im1 1 = s1) (h : ∀ q, 50 ≤ q → s1 q = s q) : (ovl im1 1 3 50) 1 = s := by
  funext q
  by_cases hq : q < 50
  · simp only [ovl, hq, and_self, if_true]; exact h3 q hq
  · simp only [ovl, hq, and_false, if_false, hs1]; exact h q (by omega)
theorem mk_ovl {im im1 : XI} (h : mk im im1) : mk im (ovl im1 1 3 50) := by
  intro a k hk
  have ha : ¬ a = 1 := fun e => hk (Or.inl e)
  simp only [ovl, ha, false_and, if_false]
  exact h a k hk
theorem mkL_lay (im : XI) : mkL im (ovl im 3 1 50) := by
  intro a k hk
  have ha : ¬ a = 3 := fun e => hk (Or.inr (Or.inl e))
  simp only [ovl, ha, false_and, if_false]
theorem lay_1 {im : XI} : (ovl im 3 1 50) 1 = im 1 := by
  funext q
  simp [ovl]
theorem rowK_l {s : Nat → Int32} {d k : Nat} : rowK s d k (33 + 3 * d) = leftN s d (s (34 + 3 * d)) (s 0) k := by
  unfold rowK; rw [upd_ne (by omega), upd_at]
theorem mom0_0 {s : Nat → Int32} {set t v : Int32} : mom0 (upd s 0 v) set t = mom0 s set t := by
  unfold mom0; rw [mom_0, upd_ne (by omega)]
theorem and_nat {w : Nat} (hw : w < 2 ^ 31) (x : Int32) : ∃ q : Nat, q ≤ w ∧ nI w &&& x = nI q := by
  refine ⟨w &&& x.toBitVec.toNat, Nat.and_le_left, ?_⟩
  apply Int32.toBitVec_inj.mp
  apply BitVec.eq_of_toNat_eq
  have h1 : (nI w).toBitVec.toNat = w := pk_tn (by omega)
  have h2 : (nI (w &&& x.toBitVec.toNat)).toBitVec.toNat = w &&& x.toBitVec.toNat := pk_tn (by have := Nat.and_le_left (n := w) (m := x.toBitVec.toNat); omega)
  rw [h2]
  show ((nI w).toBitVec &&& x.toBitVec).toNat = _
  rw [BitVec.toNat_and, h1]
theorem allT_c {s s' : Nat → Int32} {t : Int32} {np : Nat} (hn : np ≤ 6) (h4 : s 4 = nI np) (h4' : s' 4 = s 4) (h : ∀ k, 50 ≤ k → s' k = s k) (hp : ∀ p, p < np → s' (8 + 4 * p) = s (8 + 4 * p) ∧ s' (9 + 4 * p) = s (9 + 4 * p) ∧ s' (10 + 4 * p) = s (10 + 4 * p) ∧ s' (11 + 4 * p) = s (11 + 4 * p)) : allT s' t = allT s t := by
  unfold allT
  rw [h4', h4, nnat_nI (by omega)]
  exact allTN_c h hp
theorem leftN_w {s : Nat → Int32} {np nd e : Nat} {v w t : Int32} (hI : Iv s np nd) (he : e < nd) (k : Nat) : leftN (upd s (34 + 3 * e) v) e w t k = leftN s e w t k := by
  have hnd := hI.2.1.1
  have hnp := hI.1.1
  obtain ⟨⟨a, ha0, ha⟩, -⟩ := hI.2.1.2.2 e he
  induction k with
  | zero => exact upd_ne (by omega)
  | succ k ih =>
    unfold leftN
    rw [ih, allT_c hnp hI.1.2.1 (upd_ne (by omega)) (fun j hj => upd_ne (by omega)) (fun p hp => ⟨upd_ne (by omega), upd_ne (by omega), upd_ne (by omega), upd_ne (by omega)⟩)]
    unfold stepL onB
    rw [upd_ne (j := 32 + 3 * e) (by omega), ha, nnat_nI (by omega), upd_ne (by omega), upd_ne (by omega), upd_ne (by omega), on0_c (fun j hj => upd_ne (by omega))]
theorem firstP_c {c c' : Nat → Int32} {v : Int32} (h : ∀ k, c k = c' k) (f k : Nat) : firstP c v f k = firstP c' v f k := by
  rw [show c = c' from funext h]
theorem done0_w {s : Nat → Int32} {np nd e m : Nat} {v w : Int32} (hI : Iv s np nd) (he : e < nd) : done0 (upd s (34 + 3 * e) v) e w m = done0 s e w m := by
  unfold done0
  rw [upd_ne (j := 0) (by omega)]
  exact firstP_c (fun k => leftN_w hI he k) _ _
theorem firstP_nat {c : Nat → Int32} {v : Int32} (f k : Nat) : firstP c v f k = -1 ∨ ∃ q, k ≤ q ∧ q < k + f ∧ firstP c v f k = nI q := by
  induction f generalizing k with
  | zero => exact Or.inl rfl
  | succ f ih =>
    unfold firstP
    split
    · exact Or.inr ⟨k, by omega, by omega, rfl⟩
    · rcases ih (k + 1) with h | ⟨q, h1, h2, h3⟩
      · exact Or.inl h
      · exact Or.inr ⟨q, by omega, by omega, h3⟩
theorem nI_nm1 {n : Nat} (h : n < 2 ^ 31) : ¬ nI n = -1 := by
  rw [i_eq, nI_toInt h]
  show ¬ (n : Int) = -1
  omega
theorem sumF_nat {c : Nat → Int32} (h : ∀ k, c k = 0 ∨ c k = 1) (n : Nat) : ∃ q, q ≤ n ∧ sumF c n = nI q := by
  induction n with
  | zero => exact ⟨0, Nat.le_refl 0, rfl⟩
  | succ n ih =>
    obtain ⟨q, hq, he⟩ := ih
    unfold sumF
    rw [he]
    rcases h n with h | h
    · exact ⟨q, by omega, by rw [h, Int32.add_zero]⟩
    · exact ⟨q + 1, by omega, by rw [h, nI_1]⟩
theorem moms0_nat {s : Nat → Int32} {set : Int32} (n : Nat) : ∃ q, q ≤ n ∧ moms0 s set n = nI q := sumF_nat (fun k => momN_01 _ _ _ _) n
theorem Iv_beat {s : Nat → Int32} {np nd p b : Nat} (hI : Iv s np nd) (hp : p < 6) (hb0 : 0 < b) (hb : b ≤ 12) : Iv (upd s (10 + 4 * p) (nI b)) np nd := by
  refine ⟨⟨hI.1.1, by rw [upd_ne (by omega)]; exact hI.1.2.1, fun q hq => ?_⟩, IvD_c (upd_ne (by omega)) (fun d hd => ⟨upd_ne (by omega), upd_ne (by omega), upd_ne (by omega)⟩) hI.2.1, IvR_c (upd_ne (by omega)) (upd_ne (by omega)) (fun k hk hk2 => upd_ne (by omega)) hI.2.2⟩
  obtain ⟨h1, h2⟩ := hI.1.2.2 q hq
  rw [upd_ne (j := 8 + 4 * q) (by omega)]
  refine ⟨h1, ?_⟩
  by_cases hqp : q = p
  · subst hqp; exact ⟨b, hb0, hb, upd_at⟩
  · rw [upd_ne (by omega)]; exact h2
/-- the row with another beat and phase, at another tick -/
def rowB (s : Nat → Int32) (p : Nat) (b f : Int32) (k : Nat) : Nat → Int32 := upd (upd (upd s (10 + 4 * p) b) (11 + 4 * p) f) 0 (s 0 + nI k)
theorem rowB_shut {s : Nat → Int32} {p k : Nat} {b f : Int32} (hp : p < 6) : shut0 (rowB s p b f k) p = shutG s p (s 0 + nI k) b f := by
  unfold shut0
  have e0 : rowB s p b f k 0 = s 0 + nI k := upd_at
  have e10 : rowB s p b f k (10 + 4 * p) = b := by unfold rowB; rw [upd_ne (by omega), upd_ne (by omega), upd_at]
  have e11 : rowB s p b f k (11 + 4 * p) = f := by unfold rowB; rw [upd_ne (by omega), upd_at]
  have eo : ∀ j, j ≠ 0 → j ≠ 10 + 4 * p → j ≠ 11 + 4 * p → rowB s p b f k j = s j := by intro j h1 h2 h3; unfold rowB; rw [upd_ne h1, upd_ne h3, upd_ne h2]
  rw [e0, e10, e11, shutG_c (fun j hj => eo j (by omega) (by omega) (by omega)) (eo _ (by omega) (by omega) (by omega)) (eo _ (by omega) (by omega) (by omega))]
theorem rowB_Iv {s : Nat → Int32} {np nd p b : Nat} {f : Int32} (hI : Iv s np nd) (hp : p < 6) (hb0 : 0 < b) (hb : b ≤ 12) (k : Nat) : Iv (rowB s p (nI b) f k) np nd :=
  Iv_free (Iv_free (Iv_beat hI hp hb0 hb) (Or.inr (Or.inr (Or.inl ⟨p, hp, Or.inr rfl⟩)))) (Or.inl rfl)
def fitC (s : Nat → Int32) (num : Nat → Int32) (z n p : Nat) (b f : Nat) : Int32 := fitN s p (fun k => num (24 * z + k)) (s 0) (nI b) (nI f) n
abbrev okSh (z : Int32) : Prop := 0 ≤ z ∧ z ≤ 3
def opFits (s : Nat → Int32) (bs sz num : Nat → Int32) (z v w : Int32) : R3 :=
  if ¬ (okP s v ∧ (0 ≤ w ∧ w ≤ 1) ∧ okSh z) then rE 1 s else if bs (nnat z) = 0 then rE 2 s else
    if w = 0 then rO (totC (fitC s num (nnat z) (nnat (sz (nnat z))) (nnat v)) 12) s else
      if totF (fitC s num (nnat z) (nnat (sz (nnat z))) (nnat v)) 12 = -1 then rE 2 s else rO (totF (fitC s num (nnat z) (nnat (sz (nnat z))) (nnat v)) 12) s
theorem gcd_step {a b : Nat} (ha : a < 2 ^ 31) (hb0 : 0 < b) (hb : b < 2 ^ 31) : nI a - nI a / nI b * nI b = nI (a % b) := pk_rem ha hb0 hb

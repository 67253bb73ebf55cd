-- ===== the voices =====
def str (im : XI) (b : Int32) : XI := if 30 ≤ im 0 12 then im else xup (xup im 8 (nnat (im 0 12)) b) 0 12 (im 0 12 + 1)
def trA (im : XI) (l : List Int32) : XI := l.foldl str im
def hT (im : XI) : Prop := ∃ n : Nat, n ≤ 30 ∧ im 0 12 = nI n
theorem str_T {im : XI} {b : Int32} (h : hT im) : hT (str im b) := by
  obtain ⟨n, hn, he⟩ := h
  unfold str
  by_cases c : 30 ≤ im 0 12
  · rw [if_pos c]; exact ⟨n, hn, he⟩
  · rw [if_neg c]
    have : n < 30 := by
      rw [he] at c
      exact lt_i (a := 30) (by omega) (by omega) c
    exact ⟨n + 1, by omega, by rw [xup_at, he, nI_1]⟩
theorem str_o {im : XI} {b : Int32} {a k : Nat} (h : ¬ (a = 8 ∨ (a = 0 ∧ k = 12))) : (str im b) a k = im a k := by
  unfold str
  split
  · rfl
  · simp only [xup]
    rw [if_neg (fun e => h (Or.inr e)), if_neg (fun e => h (Or.inl e.1))]
theorem trA_T {im : XI} {l : List Int32} (h : hT im) : hT (trA im l) := by
  induction l generalizing im with
  | nil => exact h
  | cons b l ih => exact ih (str_T h)
theorem trA_o {im : XI} {l : List Int32} {a k : Nat} (h : ¬ (a = 8 ∨ (a = 0 ∧ k = 12))) : (trA im l) a k = im a k := by
  induction l generalizing im with
  | nil => rfl
  | cons b l ih => exact (ih (im := str im b)).trans (str_o h)
theorem trA_app {im : XI} {l l2 : List Int32} : trA (trA im l) l2 = trA im (l ++ l2) := by
  unfold trA; rw [List.foldl_append]
theorem str_c {im : XI} {b v : Int32} : str (xup im 0 15 v) b = xup (str im b) 0 15 v := by
  have e : (xup im 0 15 v) 0 12 = im 0 12 := xup_ne (by decide)
  unfold str
  rw [e]
  split
  · rfl
  · have e2 : ∀ (w : Int32) (n : Nat), xup (xup im 0 15 v) 8 n w = xup (xup im 8 n w) 0 15 v := by
      intro w n
      funext a k
      simp only [xup]
      by_cases h1 : a = 8 ∧ k = n
      · rw [if_pos h1, if_neg (by omega), if_pos h1]
      · rw [if_neg h1, if_neg h1]
    rw [e2]
    funext a k
    simp only [xup]
    by_cases h1 : a = 0 ∧ k = 12
    · rw [if_pos h1, if_neg (by omega), if_pos h1]
    · rw [if_neg h1, if_neg h1]
theorem trA_c {im : XI} {l : List Int32} {v : Int32} : trA (xup im 0 15 v) l = xup (trA im l) 0 15 v := by
  induction l generalizing im with
  | nil => rfl
  | cons b l ih =>
    show trA (str (xup im 0 15 v) b) l = _
    rw [str_c]
    exact ih
theorem trA_len {im : XI} {l : List Int32} {n : Nat} (h : im 0 12 = nI n) (hn : n + l.length ≤ 30) : (trA im l) 0 12 = nI (n + l.length) ∧ (∀ k, k < n → (trA im l) 8 k = im 8 k) ∧ ∀ k, k < l.length → (trA im l) 8 (n + k) = l.getD k 0 := by
  induction l generalizing im n with
  | nil => exact ⟨h, fun k hk => rfl, fun k hk => absurd hk (Nat.not_lt_zero k)⟩
  | cons b l ih =>
    have hl : (b :: l).length = l.length + 1 := rfl
    rw [hl] at hn
    have hc : ¬ 30 ≤ im 0 12 := by
      rw [h]
      intro c
      have := ge_i (a := 30) (by omega) (by omega) c
      omega
    have hs : str im b = xup (xup im 8 n b) 0 12 (im 0 12 + 1) := by
      unfold str
      rw [if_neg hc, h, nnat_nI (by omega)]
    have h12 : (str im b) 0 12 = nI (n + 1) := by rw [hs, xup_at, h, nI_1]
    obtain ⟨a1, a2, a3⟩ := ih (im := str im b) (n := n + 1) h12 (by omega)
    refine ⟨?_, ?_, ?_⟩
    · rw [hl]
      show (trA (str im b) l) 0 12 = _
      rw [a1]
      congr 1
      omega
    · intro k hk
      show (trA (str im b) l) 8 k = _
      rw [a2 k (by omega), hs, xup_o (by decide), xup_ne (by omega)]
    · intro k hk
      show (trA (str im b) l) 8 (n + k) = _
      cases k with
      | zero =>
        rw [Nat.add_zero, a2 n (by omega), hs, xup_o (by decide), xup_at]
        rfl
      | succ k =>
        rw [show n + (k + 1) = n + 1 + k by omega, a3 k (by omega)]
        rfl
/-- the numbers of the bodies that a voice begins, and what it says: k where the way up begins, o the kind of the one who speaks -/
def blL (k : Nat) : List Int32 := if k = 6 then [70] else if k = 4 then [50, 20, 10] else if k = 1 then [20, 10] else [10]
def blV (k : Nat) (n x : Int32) : Int32 := if k = 6 then 9 else if k = 4 then (x + n - 4) * 3 else if k = 1 then x + n - 4 else x + n
def mvL (k o : Nat) : List Int32 := if k = 6 then 71 :: 11 :: blL o else if k = 5 then 60 :: 30 :: 11 :: blL o else if k = 2 then 30 :: 11 :: blL o else 11 :: blL o
def mvV (k o : Nat) (n m x : Int32) : Int32 := if k = 6 then blV o n x * 2 + m else if k = 5 then 0 - blV o n (x + 1) * 2 else if k = 2 then 0 - blV o n x * 2 else blV o n x * 2
def lkL (k o : Nat) : List Int32 := if k = 4 then 51 :: 12 :: mvL o o else if k = 3 then 40 :: 12 :: mvL o o else 12 :: mvL o o
def lkV (k o : Nat) (n m x : Int32) : Int32 := if k = 4 then (mvV o o n m x - m) ^^^ n else if k = 3 then mvV o o n m (x / 2) - m else mvV o o n m x - m
def ptB (n m x : Int32) : Int32 := if m - n = 0 then 0 else if m - n = -1 then -x else x / (m - n)
def ptL (k o : Nat) (n m : Int32) : List Int32 := if k = 1 ∨ k = 4 then (if m - n = 0 then [21, 13] else 21 :: 13 :: mvL o o) else [13]
def ptV (k o : Nat) (n m x : Int32) : Int32 := if k = 1 ∨ k = 4 then (if m - n = 0 then 0 else ptB n m x + mvV o o n m 1) else ptB n m x
def Vo (im : XI) (s : Nat → Int32) (p : Nat) : Prop := im 1 = s ∧ im 0 14 = nI p ∧ hT im
theorem Vo.t {im : XI} {s : Nat → Int32} {p : Nat} {l : List Int32} (h : Vo im s p) : Vo (trA im l) s p := by
  obtain ⟨a, b, c⟩ := h
  refine ⟨?_, (trA_o (by decide)).trans b, trA_T c⟩
  rw [← a]
  funext k
  exact trA_o (by omega)
theorem Vo.s {im : XI} {s : Nat → Int32} {p : Nat} {b : Int32} (h : Vo im s p) : Vo (str im b) s p := Vo.t (l := [b]) h
theorem Vo.p {im : XI} {s : Nat → Int32} {p : Nat} {v : Int32} (h : Vo im s p) : Vo (xup im 0 15 v) s p := by
  obtain ⟨a, b, n, hn, c⟩ := h
  exact ⟨(xup_o (by decide)).trans a, (xup_ne (by decide)).trans b, n, hn, (xup_ne (by decide)).trans c⟩
theorem blL_len (k : Nat) : (blL k).length ≤ 3 := by
  unfold blL; split
  · decide
  · split
    · decide
    · split <;> decide
theorem mvL_len (k o : Nat) : (mvL k o).length ≤ 6 := by
  have := blL_len o
  unfold mvL; split
  · simp only [List.length_cons]; omega
  · split
    · simp only [List.length_cons]; omega
    · split <;> (simp only [List.length_cons]; omega)
theorem lkL_len (k o : Nat) : (lkL k o).length ≤ 8 := by
  have := mvL_len o o
  unfold lkL; split
  · simp only [List.length_cons]; omega
  · split <;> (simp only [List.length_cons]; omega)
theorem ptL_len (k o : Nat) (n m : Int32) : (ptL k o n m).length ≤ 8 := by
  have := mvL_len o o
  unfold ptL; split
  · split
    · decide
    · simp only [List.length_cons]; omega
  · decide
def voL (s : Nat → Int32) (p : Nat) (w : Int32) : List Int32 :=
  if w = 0 then blL (nnat (s (8 + 4 * p))) else if w = 1 then mvL (nnat (s (8 + 4 * p))) (nnat (s (8 + 4 * p))) else if w = 2 then lkL (nnat (s (8 + 4 * p))) (nnat (s (8 + 4 * p))) else ptL (nnat (s (8 + 4 * p))) (nnat (s (8 + 4 * p))) (nI p) (s (9 + 4 * p))
def voP (s : Nat → Int32) (p : Nat) (w : Int32) : Prop := ¬ w = 0 ∧ ¬ w = 1 ∧ ¬ w = 2 ∧ s (9 + 4 * p) - nI p = 0
def voV (s : Nat → Int32) (p : Nat) (w x : Int32) : Int32 :=
  if w = 0 then blV (nnat (s (8 + 4 * p))) (nI p) x else if w = 1 then mvV (nnat (s (8 + 4 * p))) (nnat (s (8 + 4 * p))) (nI p) (s (9 + 4 * p)) x else if w = 2 then lkV (nnat (s (8 + 4 * p))) (nnat (s (8 + 4 * p))) (nI p) (s (9 + 4 * p)) x else ptV (nnat (s (8 + 4 * p))) (nnat (s (8 + 4 * p))) (nI p) (s (9 + 4 * p)) x
def voR (s : Nat → Int32) (p : Nat) (w x : Int32) : R3 := if ¬ w = 0 ∧ ¬ w = 1 ∧ ¬ w = 2 ∧ s (9 + 4 * p) - nI p = 0 then rE 6 s else rO (voV s p w x) s
theorem voL_len (s : Nat → Int32) (p : Nat) (w : Int32) : (voL s p w).length ≤ 8 := by
  unfold voL
  split
  · have := blL_len (nnat (s (8 + 4 * p))); omega
  · split
    · have := mvL_len (nnat (s (8 + 4 * p))) (nnat (s (8 + 4 * p))); omega
    · split
      · exact lkL_len _ _
      · exact ptL_len _ _ _ _
def mgT (a k : Nat) : Prop := mgL a k ∨ a = 8 ∨ (a = 0 ∧ (k = 12 ∨ k = 15))
def mkT (im im' : XI) : Prop := ∀ a k, ¬ mgT a k → im' a k = im a k
def Pv (im : XI) (r : R3) (l : List Int32) (x : Int32) (im' : XI) : Prop := x = r.2.1 ∧ im' 1 = r.2.2 ∧ mkT (er im r.1) im' ∧ im' 0 12 = nI l.length ∧ ∀ k, k < l.length → im' 8 k = l.getD k 0
abbrev okVo (s : Nat → Int32) (v w : Int32) : Prop := okP s v ∧ (0 ≤ w ∧ w ≤ 3)
def opVoice (im : XI) (s : Nat → Int32) (v w x : Int32) (y : Int32) (im' : XI) : Prop :=
  if ¬ okVo s v w then Pm im (rE 1 s) y im' else Pv im (voR s (nnat v) w x) (voL s (nnat v) w) y im'
def opBody (n : Int32) (t s : Nat → Int32) (i : Int32) : R3 := if ¬ (0 ≤ i ∧ i ≤ n - 1) then rE 2 s else rO (t (nnat i)) s

-- ===== sheets, images =====
def mkS (im im' : XI) : Prop := ∀ a k, ¬ (mgL a k ∨ a = 9 ∨ a = 10 ∨ a = 11) → im' a k = im a k
theorem mkS.rf {im : XI} : mkS im im := fun _ _ _ => rfl
theorem mkS.tr {a b c : XI} (h : mkS a b) (h2 : mkS b c) : mkS a c := fun q k hq => (h2 q k hq).trans (h q k hq)
theorem mkS.up {im im0 : XI} {a i : Nat} {v : Int32} (h : mkS im0 im) (hg : mgL a i ∨ a = 9 ∨ a = 10 ∨ a = 11) : mkS im0 (xup im a i v) := by
  intro q k hq
  by_cases c : q = a ∧ k = i
  · obtain ⟨rfl, rfl⟩ := c
    exact absurd hg hq
  · rw [show xup im a i v q k = im q k by simp [xup, c]]
    exact h q k hq
theorem mkL.S {a b : XI} (h : mkL a b) : mkS a b := fun q k hq => h q k (fun c => hq (Or.inl c))
/-- a sheet's call that answers y: the three rows of the sheets behind it -/
def Psh (im : XI) (s : Nat → Int32) (y : Int32) (bs ss nu : Nat → Int32) (x : Int32) (im' : XI) : Prop := x = y ∧ im' 1 = s ∧ im' 9 = bs ∧ im' 10 = ss ∧ im' 11 = nu ∧ mkS im im'
abbrev okBits (t : Int32) : Prop := t = 0 ∨ t = 8 ∨ t = 16 ∨ t = 32
def clr (nu : Nat → Int32) (z : Nat) (n : Nat) : Nat → Int32 := fun k => if 24 * z ≤ k ∧ k < 24 * z + n then 0 else nu k
theorem clr_0 (nu : Nat → Int32) (z : Nat) : clr nu z 0 = nu := by
  funext k; unfold clr; rw [if_neg (by omega)]
theorem clr_s (nu : Nat → Int32) (z n : Nat) : upd (clr nu z n) (24 * z + n) 0 = clr nu z (n + 1) := by
  funext k
  unfold clr upd
  by_cases h : k = 24 * z + n
  · rw [if_pos h, if_pos (by omega)]
  · rw [if_neg h]
    dsimp only
    by_cases h2 : 24 * z ≤ k ∧ k < 24 * z + n
    · rw [if_pos h2, if_pos (by omega)]
    · rw [if_neg h2, if_neg (by omega)]
def opSheet (im : XI) (s : Nat → Int32) (z t n : Int32) (x : Int32) (im' : XI) : Prop :=
  if ¬ (okSh z ∧ okBits t) then Pm im (rE 1 s) x im' else if ¬ t = 0 ∧ n < 0 then Pm im (rE 3 s) x im' else if ¬ t = 0 ∧ 24 < n then Pm im (rE 1 s) x im' else
  Psh im s 1 (upd (im 9) (nnat z) t) (upd (im 10) (nnat z) (if t = 0 then 0 else n)) (clr (im 11) (nnat z) 24) x im'
def narrow (v t : Int32) : Int32 := (v <<< ((32 - t) &&& 31)) >>> ((32 - t) &&& 31)
def opPut (im : XI) (s : Nat → Int32) (z i v : Int32) (x : Int32) (im' : XI) : Prop :=
  if ¬ okSh z then Pm im (rE 1 s) x im' else if im 9 (nnat z) = 0 then Pm im (rE 2 s) x im' else if ¬ (0 ≤ i ∧ i ≤ im 10 (nnat z) - 1) then Pm im (rE 1 s) x im' else
  Psh im s 1 (im 9) (im 10) (upd (im 11) (24 * nnat z + nnat i) (narrow v (im 9 (nnat z)))) x im'
def mvd (nu : Nat → Int32) (z i y j : Nat) (n : Nat) : Nat → Int32 := fun k => if 24 * y + j ≤ k ∧ k < 24 * y + j + n then nu (24 * z + i + (k - (24 * y + j))) else nu k
theorem mvd_0 (nu : Nat → Int32) (z i y j : Nat) : mvd nu z i y j 0 = nu := by
  funext k; unfold mvd; rw [if_neg (by omega)]
theorem mvd_s (nu : Nat → Int32) (z i y j n : Nat) : upd (mvd nu z i y j n) (24 * y + j + n) (nu (24 * z + i + n)) = mvd nu z i y j (n + 1) := by
  funext k
  unfold mvd upd
  by_cases h : k = 24 * y + j + n
  · rw [if_pos h, if_pos (by omega), show k - (24 * y + j) = n by omega]
  · rw [if_neg h]
    dsimp only
    by_cases h2 : 24 * y + j ≤ k ∧ k < 24 * y + j + n
    · rw [if_pos h2, if_pos (by omega)]
    · rw [if_neg h2, if_neg (by omega)]
abbrev okMv (ss : Nat → Int32) (z : Nat) (i : Int32) (y : Nat) (j n : Int32) : Prop := ¬ n < 0 ∧ ¬ i < 0 ∧ ¬ j < 0 ∧ i ≤ ss z - n ∧ j ≤ ss y - n
def opMoveN (im : XI) (s : Nat → Int32) (z : Nat) (i : Int32) (y : Nat) (j n : Int32) (x : Int32) (im' : XI) : Prop :=
  if im 9 z = 0 ∨ im 9 y = 0 then Pm im (rE 2 s) x im' else if ¬ im 9 z = im 9 y then Pm im (rE 5 s) x im' else if ¬ okMv (im 10) z i y j n then Pm im (rE 1 s) x im' else
  Psh im s n (im 9) (im 10) (mvd (im 11) z (nnat i) y (nnat j) (nnat n)) x im'
def opMove (im : XI) (s : Nat → Int32) (z i y j n : Int32) (x : Int32) (im' : XI) : Prop :=
  if ¬ (okSh z ∧ okSh y) then Pm im (rE 1 s) x im' else opMoveN im s (nnat z) i (nnat y) j n x im'
abbrev paOk (s : Nat → Int32) (m : Nat) (nu : Nat → Int32) (n : Nat) : Prop := n < m ∧ n < nnat (s 5) ∧ 0 ≤ nu n ∧ nu n ≤ 99
def paR (m : Nat) (nu : Nat → Int32) : Nat → Nat → (Nat → Int32) → Int32 × (Nat → Int32)
  | 0, n, s => (nI n, s)
  | f + 1, n, s => if paOk s m nu n then paR m nu f (n + 1) (upd s (33 + 3 * n) (nu n)) else (nI n, s)
def opPartsAll (s : Nat → Int32) (bs ss nu : Nat → Int32) (z : Int32) : R3 :=
  if ¬ okSh z then rE 1 s else if bs (nnat z) = 0 then rE 2 s else
  rO (paR (nnat (ss (nnat z))) (fun k => nu (24 * nnat z + k)) 7 0 s).1 (paR (nnat (ss (nnat z))) (fun k => nu (24 * nnat z + k)) 7 0 s).2
def jgR (s : Nat → Int32) (m : Nat) (nu : Nat → Int32) : Nat → Nat → Nat
  | 0, n => n
  | f + 1, n => if n < m ∧ allT s (s 0 + nI n) = nu n then jgR s m nu f (n + 1) else n
def opJudge (s : Nat → Int32) (bs ss nu : Nat → Int32) (z : Int32) : R3 :=
  if ¬ okSh z then rE 1 s else if bs (nnat z) = 0 then rE 2 s else rO (nI (jgR s (nnat (ss (nnat z))) (fun k => nu (24 * nnat z + k)) 25 0)) s
def opImage (im : XI) (s : Nat → Int32) (x : Int32) (im' : XI) : Prop := x = im 0 3 + 1 ∧ im' = xup (ovl im 2 1 384) 0 3 (im 0 3 + 1)
def opRestore (im : XI) (s : Nat → Int32) (x : Int32) (im' : XI) : Prop := if im 0 3 = 0 then Pm im (rE 2 s) x im' else x = im 2 0 ∧ im' = ovl im 1 2 384

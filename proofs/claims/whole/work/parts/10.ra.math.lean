-- ===== the reading of a text =====
abbrev PStp : Type := Int32 × Int32
abbrev PRes : Type := Nat × Option (List PStp)
def lkA (tp : Nat → Int32) (n a : Nat) : Int32 := if a < n then tp a else -1
abbrev isNm (u : Nat) (c : Int32) : Prop := c = nameC u 0 ∨ c = nameC u 1 ∨ c = nameC u 2
abbrev isDg (c : Int32) : Prop := 48 ≤ c ∧ c ≤ 57
abbrev isOp (k : Nat) (c : Int32) : Prop := (k = 0 ∧ c = 124) ∨ (k = 1 ∧ c = 38) ∨ (k = 2 ∧ (c = 60 ∨ c = 61 ∨ c = 62)) ∨ (k = 3 ∧ (c = 43 ∨ c = 45)) ∨ (k = 4 ∧ (c = 42 ∨ c = 47 ∨ c = 37))
def dgs (tp : Nat → Int32) (n : Nat) : Nat → Nat → Int32 → Nat × Int32
  | 0, a, v => (a, v)
  | k + 1, a, v => if isDg (lkA tp n a) then dgs tp n k (a + 1) (10 * v + lkA tp n a - 48) else (a, v)
def sqR (r : Option PRes) (g : Nat → List PStp → Option PRes) : Option PRes := match r with
  | none => none
  | some (a, none) => some (a, none)
  | some (a, some l) => g a l
/-- what reading gives: m 0 .. 4 a level, 5 one, 6 .. 10 what goes on behind a piece of the level m - 6; the place where it ends, and the steps, if it can -/
def prs (tp : Nat → Int32) (n u : Nat) : Nat → Nat → Nat → Nat → Option PRes
  | 0, _, _, _ => none
  | f + 1, m, op, a =>
    if m = 5 then
      if isNm u (lkA tp n a) then some (a + 1, some [(1, lkA tp n a)])
      else if isDg (lkA tp n a) then some ((dgs tp n 4 a 0).1, some [(0, (dgs tp n 4 a 0).2)])
      else if lkA tp n a = 33 then (if op = 5 then some (a, none) else sqR (prs tp n u f 5 (op + 1) (a + 1)) (fun b l => some (b, some (l ++ [(2, 0)]))))
      else if lkA tp n a = 40 then (if op = 5 then some (a, none) else sqR (prs tp n u f 0 (op + 1) (a + 1)) (fun b l => if lkA tp n b = 41 then some (b + 1, some l) else some (b, none)))
      else some (a, none)
    else if m < 5 then sqR (prs tp n u f (m + 1) op a) (fun b l => sqR (prs tp n u f (m + 6) op b) (fun e k => some (e, some (l ++ k))))
    else if isOp (m - 6) (lkA tp n a) then
      sqR (prs tp n u f (m - 5) op (a + 1)) (fun b l => if m = 8 then some (b, some (l ++ [(3, lkA tp n a)])) else sqR (prs tp n u f m op b) (fun e k => some (e, some (l ++ (3, lkA tp n a) :: k))))
    else some (a, some [])
theorem prs_5 {tp : Nat → Int32} {n u f op a : Nat} : prs tp n u (f + 1) 5 op a =
      if isNm u (lkA tp n a) then some (a + 1, some [(1, lkA tp n a)])
      else if isDg (lkA tp n a) then some ((dgs tp n 4 a 0).1, some [(0, (dgs tp n 4 a 0).2)])
      else if lkA tp n a = 33 then (if op = 5 then some (a, none) else sqR (prs tp n u f 5 (op + 1) (a + 1)) (fun b l => some (b, some (l ++ [(2, 0)]))))
      else if lkA tp n a = 40 then (if op = 5 then some (a, none) else sqR (prs tp n u f 0 (op + 1) (a + 1)) (fun b l => if lkA tp n b = 41 then some (b + 1, some l) else some (b, none)))
      else some (a, none) := rfl
theorem prs_l {tp : Nat → Int32} {n u f m op a : Nat} (h : m < 5) : prs tp n u (f + 1) m op a = sqR (prs tp n u f (m + 1) op a) (fun b l => sqR (prs tp n u f (m + 6) op b) (fun e k => some (e, some (l ++ k)))) := by
  show (if m = 5 then _ else if m < 5 then _ else _) = _
  rw [if_neg (by omega), if_pos h]
theorem prs_t {tp : Nat → Int32} {n u f m op a : Nat} (h : 6 ≤ m) : prs tp n u (f + 1) m op a = if isOp (m - 6) (lkA tp n a) then
      sqR (prs tp n u f (m - 5) op (a + 1)) (fun b l => if m = 8 then some (b, some (l ++ [(3, lkA tp n a)])) else sqR (prs tp n u f m op b) (fun e k => some (e, some (l ++ (3, lkA tp n a) :: k))))
    else some (a, some []) := by
  show (if m = 5 then _ else if m < 5 then _ else _) = _
  rw [if_neg (by omega), if_neg (by omega)]
def nxD (w : Int32) (d : Nat) : Nat := if w = 0 ∨ w = 1 then d + 1 else if w = 2 then d else d - 1
def okL (u : Nat) : List PStp → Nat → Nat → Prop
  | [], d, e => d = e
  | x :: l, d, e => stepOk u x.1 x.2 d ∧ okL u l (nxD x.1 d) e
theorem okL_app {u : Nat} {l k : List PStp} {d e g : Nat} (h : okL u l d e) (h2 : okL u k e g) : okL u (l ++ k) d g := by
  induction l generalizing d with
  | nil => rw [show d = e from h]; exact h2
  | cons x l ih => exact ⟨h.1, ih h.2⟩
theorem lkA_lt {tp : Nat → Int32} {n a : Nat} (h : ¬ lkA tp n a = -1) : a < n := by
  unfold lkA at h
  split at h
  · assumption
  · exact absurd rfl h
theorem dgs_ok {tp : Nat → Int32} {n : Nat} (k : Nat) : ∀ (a x j : Nat), x < 10 ^ j → j + k ≤ 4 → a ≤ n → (a ≤ (dgs tp n k a (nI x)).1 ∧ (dgs tp n k a (nI x)).1 ≤ n ∧ ∃ y, y < 10000 ∧ (dgs tp n k a (nI x)).2 = nI y) := by
  induction k with
  | zero =>
    intro a x j hx hj ha
    refine ⟨Nat.le_refl _, ha, x, ?_, rfl⟩
    have : 10 ^ j ≤ 10 ^ 4 := Nat.pow_le_pow_right (by decide) (by omega)
    omega
  | succ k ih =>
    intro a x j hx hj ha
    unfold dgs
    by_cases c : isDg (lkA tp n a)
    · rw [if_pos c]
      have hlt : a < n := lkA_lt (fun h => by rw [h] at c; exact absurd c.1 (by decide))
      obtain ⟨i, hi1, hi2, hi⟩ := (in_ab (x := lkA tp n a) (z := 48) (y := 57) (a := 48) (n := 57) rfl rfl (by decide) (by decide)).mp c
      have hp : 10 ^ (j + 1) = 10 ^ j * 10 := Nat.pow_succ 10 j
      have e : 10 * nI x + lkA tp n a - 48 = nI (10 * x + (i - 48)) := by
        rw [hi, show (10 : Int32) = nI 10 from rfl, pk_mul, nI_add, show (48 : Int32) = nI 48 from rfl, pk_sub (by omega)]
        congr 1
        omega
      rw [e]
      obtain ⟨b1, b2, b3⟩ := ih (a + 1) (10 * x + (i - 48)) (j + 1) (by omega) (by omega) (by omega)
      exact ⟨by omega, b2, b3⟩
    · rw [if_neg c]
      refine ⟨Nat.le_refl _, ha, x, ?_, rfl⟩
      have : 10 ^ j ≤ 10 ^ 4 := Nat.pow_le_pow_right (by decide) (by omega)
      omega
theorem dgs_1 {tp : Nat → Int32} {n a k : Nat} {v : Int32} (c : isDg (lkA tp n a)) : dgs tp n (k + 1) a v = dgs tp n k (a + 1) (10 * v + lkA tp n a - 48) := by
  conv => lhs; unfold dgs
  rw [if_pos c]
theorem dgs_2 {tp : Nat → Int32} {n a k : Nat} {v : Int32} (c : ¬ isDg (lkA tp n a)) : dgs tp n (k + 1) a v = (a, v) := by
  conv => lhs; unfold dgs
  rw [if_neg c]
theorem dgs_4 {tp : Nat → Int32} {n a : Nat} (c : isDg (lkA tp n a)) : a < (dgs tp n 4 a 0).1 ∧ (dgs tp n 4 a 0).1 ≤ n ∧ ∃ y, y < 10000 ∧ (dgs tp n 4 a 0).2 = nI y := by
  have hlt : a < n := lkA_lt (fun h => by rw [h] at c; exact absurd c.1 (by decide))
  rw [dgs_1 c]
  obtain ⟨i, hi1, hi2, hi⟩ := (in_ab (x := lkA tp n a) (z := 48) (y := 57) (a := 48) (n := 57) rfl rfl (by decide) (by decide)).mp c
  have e : 10 * (0 : Int32) + lkA tp n a - 48 = nI (i - 48) := by
    rw [show (10 : Int32) * 0 = nI 0 from rfl, hi, nI_add, show (48 : Int32) = nI 48 from rfl, pk_sub (by omega)]
    congr 1
    omega
  rw [e]
  obtain ⟨b1, b2, b3⟩ := dgs_ok (tp := tp) (n := n) 3 (a + 1) (i - 48) 1 (by omega) (by omega) (by omega)
  exact ⟨by omega, b2, b3⟩
def wgt (m : Nat) : Nat := if m < 6 then 6 - m else 1
def RK (n u m a : Nat) (r : PRes) : Prop := a ≤ r.1 ∧ r.1 ≤ n ∧ ∀ l, r.2 = some l → l.length + a ≤ r.1 ∧ (m < 6 → a < r.1) ∧ ∀ d, okL u l (if m < 6 then d else d + 1) (d + 1)
theorem isOp_s {k : Nat} {c : Int32} (h : isOp k c) : c ∈ signs ∧ ¬ c = -1 := by
  rcases h with ⟨_, h⟩ | ⟨_, h⟩ | ⟨_, h | h | h⟩ | ⟨_, h | h⟩ | ⟨_, h | h | h⟩ <;> (subst h; decide)
theorem prs_ok (tp : Nat → Int32) (n u : Nat) : ∀ (f m op a : Nat), m ≤ 10 → a ≤ n → 12 * (n - a) + wgt m < f → ∃ r, prs tp n u f m op a = some r ∧ RK n u m a r := by
  intro f
  induction f with
  | zero => intro m op a hm ha h; omega
  | succ f ih =>
    intro m op a hm ha h
    by_cases h5 : m = 5
    · subst h5
      have hw : wgt 5 = 1 := rfl
      rw [prs_5]
      by_cases c1 : isNm u (lkA tp n a)
      · rw [if_pos c1]
        have hlt : a < n := lkA_lt (fun h => by
          rw [h] at c1
          have e : ∀ j, ¬ (-1 : Int32) = nameC u j := fun j h => by
            obtain ⟨h1, h2⟩ := nameC_lt u j
            rw [← h] at h1
            have := nI_nm1 (n := nnat (nameC u j)) (by omega)
            exact this (by rw [← h]; exact h1.symm)
          rcases c1 with c | c | c <;> exact e _ c)
        refine ⟨_, rfl, by show a ≤ a + 1; omega, by show a + 1 ≤ n; omega, fun l hl => ?_⟩
        obtain rfl : [(1, lkA tp n a)] = l := Option.some.inj hl
        refine ⟨by show 1 + a ≤ a + 1; omega, fun _ => by show a < a + 1; omega, fun d => ⟨Or.inr (Or.inl ⟨rfl, ?_⟩), rfl⟩⟩
        rcases c1 with c | c | c
        · exact ⟨0, by omega, c⟩
        · exact ⟨1, by omega, c⟩
        · exact ⟨2, by omega, c⟩
      · rw [if_neg c1]
        by_cases c2 : isDg (lkA tp n a)
        · rw [if_pos c2]
          obtain ⟨b1, b2, y, hy, e⟩ := dgs_4 c2
          refine ⟨_, rfl, by show a ≤ (dgs tp n 4 a 0).1; omega, b2, fun l hl => ?_⟩
          obtain rfl : [(0, (dgs tp n 4 a 0).2)] = l := Option.some.inj hl
          refine ⟨by show 1 + a ≤ (dgs tp n 4 a 0).1; omega, fun _ => b1, fun d => ⟨Or.inl ⟨rfl, y, hy, e⟩, rfl⟩⟩
        · rw [if_neg c2]
          by_cases c3 : lkA tp n a = 33
          · rw [if_pos c3]
            have hlt : a < n := lkA_lt (fun h => by rw [h] at c3; exact absurd c3 (by decide))
            by_cases c4 : op = 5
            · rw [if_pos c4]
              exact ⟨_, rfl, Nat.le_refl _, ha, fun l hl => by cases hl⟩
            · rw [if_neg c4]
              obtain ⟨⟨b, o⟩, hr, k1, k2, k3⟩ := ih 5 (op + 1) (a + 1) (by omega) (by omega) (by rw [hw] at *; omega)
              rw [hr]
              simp only at k1 k2 k3
              cases o with
              | none => exact ⟨_, rfl, by show a ≤ b; omega, k2, fun l hl => by cases hl⟩
              | some l =>
                obtain ⟨q1, q2, q3⟩ := k3 l rfl
                refine ⟨_, rfl, by show a ≤ b; omega, k2, fun l' hl => ?_⟩
                obtain rfl : l ++ [(2, 0)] = l' := Option.some.inj hl
                refine ⟨by show (l ++ [(2, 0)]).length + a ≤ b; rw [List.length_append]; show l.length + 1 + a ≤ b; omega, fun _ => by show a < b; omega, fun d => okL_app (q3 d) ⟨Or.inr (Or.inr (Or.inl ⟨rfl, by omega⟩)), rfl⟩⟩
          · rw [if_neg c3]
            by_cases c5 : lkA tp n a = 40
            · rw [if_pos c5]
              have hlt : a < n := lkA_lt (fun h => by rw [h] at c5; exact absurd c5 (by decide))
              by_cases c4 : op = 5
              · rw [if_pos c4]
                exact ⟨_, rfl, Nat.le_refl _, ha, fun l hl => by cases hl⟩
              · rw [if_neg c4]
                obtain ⟨⟨b, o⟩, hr, k1, k2, k3⟩ := ih 0 (op + 1) (a + 1) (by omega) (by omega) (by rw [hw] at *; show 12 * (n - (a + 1)) + 6 < f; omega)
                rw [hr]
                simp only at k1 k2 k3
                cases o with
                | none => exact ⟨_, rfl, by show a ≤ b; omega, k2, fun l hl => by cases hl⟩
                | some l =>
                  obtain ⟨q1, q2, q3⟩ := k3 l rfl
                  show ∃ r, (if lkA tp n b = 41 then some (b + 1, some l) else some (b, none)) = some r ∧ _
                  by_cases c6 : lkA tp n b = 41
                  · rw [if_pos c6]
                    have hlt : b < n := lkA_lt (fun h => by rw [h] at c6; exact absurd c6 (by decide))
                    refine ⟨_, rfl, by show a ≤ b + 1; omega, hlt, fun l' hl => ?_⟩
                    obtain rfl : l = l' := Option.some.inj hl
                    exact ⟨by show l.length + a ≤ b + 1; omega, fun _ => by show a < b + 1; omega, q3⟩
                  · rw [if_neg c6]
                    exact ⟨_, rfl, by show a ≤ b; omega, k2, fun l hl => by cases hl⟩
            · rw [if_neg c5]
              exact ⟨_, rfl, Nat.le_refl _, ha, fun l hl => by cases hl⟩
    · by_cases h6 : m < 5
      · rw [prs_l h6]
        have hw : wgt m = 6 - m := if_pos (by omega)
        have hw1 : wgt (m + 1) = 6 - (m + 1) := if_pos (by omega)
        have hw6 : wgt (m + 6) = 1 := if_neg (by omega)
        obtain ⟨⟨b, o⟩, hr, k1, k2, k3⟩ := ih (m + 1) op a (by omega) ha (by rw [hw1]; rw [hw] at h; omega)
        rw [hr]
        simp only at k1 k2 k3
        cases o with
        | none => exact ⟨_, rfl, k1, k2, fun l hl => by cases hl⟩
        | some l =>
          obtain ⟨q1, q2, q3⟩ := k3 l rfl
          have q2' := q2 (by omega)
          simp only [show m + 1 < 6 by omega, if_true] at q3
          obtain ⟨⟨e, o2⟩, hr2, z1, z2, z3⟩ := ih (m + 6) op b (by omega) k2 (by rw [hw6]; rw [hw] at h; omega)
          show ∃ r, sqR (prs tp n u f (m + 6) op b) _ = some r ∧ _
          rw [hr2]
          simp only at z1 z2 z3
          cases o2 with
          | none => exact ⟨_, rfl, by show a ≤ e; omega, z2, fun l hl => by cases hl⟩
          | some k =>
            obtain ⟨y1, y2, y3⟩ := z3 k rfl
            simp only [show ¬ m + 6 < 6 by omega, if_false] at y3
            refine ⟨_, rfl, by show a ≤ e; omega, z2, fun l' hl => ?_⟩
            obtain rfl : l ++ k = l' := Option.some.inj hl
            refine ⟨by show (l ++ k).length + a ≤ e; rw [List.length_append]; omega, fun _ => by show a < e; omega, fun d => ?_⟩
            simp only [show m < 6 by omega, if_true]
            exact okL_app (q3 d) (y3 d)
      · rw [prs_t (by omega)]
        have hw : wgt m = 1 := if_neg (by omega)
        by_cases c1 : isOp (m - 6) (lkA tp n a)
        · rw [if_pos c1]
          obtain ⟨s1, s2⟩ := isOp_s c1
          have hlt : a < n := lkA_lt s2
          have hw1 : wgt (m - 5) ≤ 5 := by unfold wgt; split <;> omega
          obtain ⟨⟨b, o⟩, hr, k1, k2, k3⟩ := ih (m - 5) op (a + 1) (by omega) hlt (by rw [hw] at h; omega)
          rw [hr]
          simp only at k1 k2 k3
          cases o with
          | none => exact ⟨_, rfl, by show a ≤ b; omega, k2, fun l hl => by cases hl⟩
          | some l =>
            obtain ⟨q1, q2, q3⟩ := k3 l rfl
            have q2' := q2 (by omega)
            simp only [show m - 5 < 6 by omega, if_true] at q3
            have hst : ∀ d, stepOk u 3 (lkA tp n a) (d + 1 + 1) := fun d => Or.inr (Or.inr (Or.inr ⟨rfl, by omega, s1⟩))
            show ∃ r, (if m = 8 then some (b, some (l ++ [(3, lkA tp n a)])) else sqR (prs tp n u f m op b) _) = some r ∧ _
            by_cases c8 : m = 8
            · rw [if_pos c8]
              refine ⟨_, rfl, by show a ≤ b; omega, k2, fun l' hl => ?_⟩
              obtain rfl : l ++ [(3, lkA tp n a)] = l' := Option.some.inj hl
              refine ⟨by show (l ++ [(3, lkA tp n a)]).length + a ≤ b; rw [List.length_append]; show l.length + 1 + a ≤ b; omega, fun _ => by show a < b; omega, fun d => ?_⟩
              simp only [show ¬ m < 6 by omega, if_false]
              exact okL_app (q3 (d + 1)) ⟨hst d, rfl⟩
            · rw [if_neg c8]
              obtain ⟨⟨e, o2⟩, hr2, z1, z2, z3⟩ := ih m op b (by omega) k2 (by rw [hw] at *; omega)
              rw [hr2]
              simp only at z1 z2 z3
              cases o2 with
              | none => exact ⟨_, rfl, by show a ≤ e; omega, z2, fun l hl => by cases hl⟩
              | some k =>
                obtain ⟨y1, y2, y3⟩ := z3 k rfl
                simp only [show ¬ m < 6 by omega, if_false] at y3
                refine ⟨_, rfl, by show a ≤ e; omega, z2, fun l' hl => ?_⟩
                obtain rfl : l ++ (3, lkA tp n a) :: k = l' := Option.some.inj hl
                refine ⟨by show (l ++ (3, lkA tp n a) :: k).length + a ≤ e; rw [List.length_append]; show l.length + (k.length + 1) + a ≤ e; omega, fun _ => by show a < e; omega, fun d => ?_⟩
                simp only [show ¬ m < 6 by omega, if_false]
                exact okL_app (q3 (d + 1)) ⟨hst d, y3 d⟩
        · rw [if_neg c1]
          refine ⟨_, rfl, Nat.le_refl _, ha, fun l hl => ?_⟩
          obtain rfl : ([] : List PStp) = l := Option.some.inj hl
          refine ⟨by show 0 + a ≤ a; omega, fun h => absurd h (by omega), fun d => ?_⟩
          simp only [show ¬ m < 6 by omega, if_false]
          rfl
/-- what a whole text gives -/
def prT (s : Nat → Int32) (u : Nat) : PRes := (prs (fun k => s (300 + k)) (nnat (s 2)) u 1000 0 0 0).getD (0, none)
theorem prT_ok {s : Nat → Int32} {u n : Nat} (h2 : s 2 = nI n) (hn : n ≤ 60) : prs (fun k => s (300 + k)) n u 1000 0 0 0 = some (prT s u) ∧ RK n u 0 0 (prT s u) := by
  obtain ⟨r, hr, hk⟩ := prs_ok (fun k => s (300 + k)) n u 1000 0 0 0 (by omega) (by omega) (by show 12 * (n - 0) + 6 < 1000; omega)
  have e : prT s u = r := by
    unfold prT
    rw [h2, nnat_nI (by omega), hr]
    rfl
  rw [e]
  exact ⟨hr, hk⟩
def clS (l : List PStp) (j : Nat) : Int32 := if j % 2 = 0 then (l.getD (j / 2) (0, 0)).1 else (l.getD (j / 2) (0, 0)).2
def wrS : (Nat → Int32) → Nat → List PStp → Nat → Int32
  | f, _, [] => f
  | f, n, x :: l => wrS (upd (upd f (2 * n) x.1) (2 * n + 1) x.2) (n + 1) l
theorem wrS_app (f : Nat → Int32) (n : Nat) (l k : List PStp) : wrS f n (l ++ k) = wrS (wrS f n l) (n + l.length) k := by
  induction l generalizing f n with
  | nil => rfl
  | cons x l ih =>
    show wrS _ (n + 1) (l ++ k) = wrS (wrS _ (n + 1) l) (n + (l.length + 1)) k
    rw [ih, show n + 1 + l.length = n + (l.length + 1) by omega]
theorem wrS_lo (f : Nat → Int32) (n : Nat) (l : List PStp) (j : Nat) (h : j < 2 * n) : wrS f n l j = f j := by
  induction l generalizing f n with
  | nil => rfl
  | cons x l ih =>
    show wrS _ (n + 1) l j = _
    rw [ih _ _ (by omega), upd_ne (by omega), upd_ne (by omega)]
theorem wrS_at (f : Nat → Int32) (n : Nat) (l : List PStp) (j : Nat) (h : j < 2 * l.length) : wrS f n l (2 * n + j) = clS l j := by
  induction l generalizing f n j with
  | nil => exact absurd h (by show ¬ j < 0; omega)
  | cons x l ih =>
    show wrS _ (n + 1) l (2 * n + j) = _
    have hl : (x :: l).length = l.length + 1 := rfl
    match j, h with
    | 0, _ =>
      rw [wrS_lo _ _ _ _ (by omega), upd_ne (by omega)]
      exact upd_at
    | 1, _ =>
      rw [wrS_lo _ _ _ _ (by omega)]
      exact upd_at
    | j + 2, h =>
      rw [show 2 * n + (j + 2) = 2 * (n + 1) + j by omega, ih _ _ _ (by omega)]
      unfold clS
      rw [show (j + 2) % 2 = j % 2 by omega, show (j + 2) / 2 = j / 2 + 1 by omega, List.getD_cons_succ]
def textS (s : Nat → Int32) (u : Nat) (l : List PStp) : Nat → Int32 := fun k => if k = 50 + 125 * u then nI l.length else if 50 + 125 * u < k ∧ k < 51 + 125 * u + 2 * l.length then clS l (k - (51 + 125 * u)) else if k = 2 then 0 else s k
def opText (s : Nat → Int32) (u0 : Int32) : R3 := if ¬ (0 ≤ u0 ∧ u0 ≤ 1) then rE 1 s else
  match prT s (nnat u0) with
  | (b, none) => rO (-10 - nI b) (upd s 2 0)
  | (b, some l) => if nI b = s 2 then rO 1 (textS s (nnat u0) l) else rO (-10 - nI b) (upd s 2 0)

-- ===== plain numbers =====
def b2i (p : Prop) [Decidable p] : Int32 := if p then 1 else 0
theorem b2i_z {p : Prop} [Decidable p] : (b2i p = 0) ↔ ¬ p := by
  unfold b2i; by_cases h : p <;> simp [h]
theorem b2i_nz {p : Prop} [Decidable p] : (¬ b2i p = 0) ↔ p := by
  unfold b2i; by_cases h : p <;> simp [h]
theorem b2i_o {p : Prop} [Decidable p] : (b2i p = 1) ↔ p := by
  unfold b2i; by_cases h : p <;> simp [h]
theorem b2i_01 (p : Prop) [Decidable p] : b2i p = 0 ∨ b2i p = 1 := by
  unfold b2i; by_cases h : p <;> simp [h]
theorem b2i_t {p : Prop} [Decidable p] (h : p) : b2i p = 1 := by simp [b2i, h]
theorem b2i_f {p : Prop} [Decidable p] (h : ¬ p) : b2i p = 0 := by simp [b2i, h]
theorem b2i_c {p q : Prop} [Decidable p] [Decidable q] (h : p ↔ q) : b2i p = b2i q := by
  unfold b2i; by_cases hp : p
  · rw [if_pos hp, if_pos (h.mp hp)]
  · rw [if_neg hp, if_neg (fun x => hp (h.mpr x))]
theorem i_le (a b : Int32) : a ≤ b ↔ a.toInt ≤ b.toInt := Int32.le_iff_toInt_le
theorem i_lt (a b : Int32) : a < b ↔ a.toInt < b.toInt := Int32.lt_iff_toInt_lt
theorem i_eq (a b : Int32) : a = b ↔ a.toInt = b.toInt := Int32.toInt_inj.symm
theorem i_ge0 (x : Int32) : (0 ≤ x) ↔ (0 ≤ x.toInt) := by rw [i_le]; rfl
theorem i_rng (x : Int32) : -2147483648 ≤ x.toInt ∧ x.toInt < 2147483648 := by
  have h1 := Int32.le_toInt x
  have h2 := Int32.toInt_lt x
  constructor
  · simpa using h1
  · simpa using h2
theorem nI_ex {x : Int32} {n : Nat} (h0 : 0 ≤ x.toInt) (h1 : x.toInt < n) : ∃ i : Nat, i < n ∧ x = nI i := by
  refine ⟨x.toInt.toNat, by omega, ?_⟩
  rw [i_eq, nI_toInt (by have := (i_rng x).2; omega)]
  omega
theorem nI_m1 (n : Nat) (h : n < 2 ^ 31) : (nI n - 1).toInt = (n : Int) - 1 := by
  cases n with
  | zero => rfl
  | succ k => rw [nI_pred, nI_toInt (by omega)]; omega
/-- 0 .. n - 1 -/
theorem in_n {x : Int32} {n : Nat} (hn : n < 2 ^ 31) : (0 ≤ x ∧ x ≤ nI n - 1) ↔ ∃ i : Nat, i < n ∧ x = nI i := by
  rw [i_ge0, i_le, nI_m1 n hn]
  constructor
  · rintro ⟨h0, h1⟩
    exact nI_ex h0 (by omega)
  · rintro ⟨i, hi, rfl⟩
    rw [nI_toInt (by omega)]
    omega
/-- 0 .. c -/
theorem in_c {x y : Int32} {n : Nat} (hy : y = nI n) (hn : n < 2 ^ 31) : (0 ≤ x ∧ x ≤ y) ↔ ∃ i : Nat, i ≤ n ∧ x = nI i := by
  subst hy
  rw [i_ge0, i_le, nI_toInt hn]
  constructor
  · rintro ⟨h0, h1⟩
    obtain ⟨i, hi, rfl⟩ := nI_ex (x := x) (n := n + 1) h0 (by omega)
    exact ⟨i, by omega, rfl⟩
  · rintro ⟨i, hi, rfl⟩
    rw [nI_toInt (by omega)]
    omega
theorem in_ab {x y z : Int32} {a n : Nat} (hz : z = nI a) (hy : y = nI n) (ha : a < 2 ^ 31) (hn : n < 2 ^ 31) : (z ≤ x ∧ x ≤ y) ↔ ∃ i : Nat, a ≤ i ∧ i ≤ n ∧ x = nI i := by
  subst hy; subst hz
  rw [i_le, i_le, nI_toInt hn, nI_toInt ha]
  constructor
  · rintro ⟨h0, h1⟩
    obtain ⟨i, hi, rfl⟩ := nI_ex (x := x) (n := n + 1) (by omega) (by omega)
    rw [nI_toInt (by omega)] at h0
    exact ⟨i, by omega, by omega, rfl⟩
  · rintro ⟨i, hi, hi2, rfl⟩
    rw [nI_toInt (by omega)]
    omega
theorem ge_i {a b : Nat} (ha : a < 2 ^ 31) (hb : b < 2 ^ 31) (h : nI a ≤ nI b) : a ≤ b := (nI_leI ha hb).mp h
theorem lt_i {a b : Nat} (ha : a < 2 ^ 31) (hb : b < 2 ^ 31) (h : ¬ nI a ≤ nI b) : b < a := Nat.not_le.mp fun q => h ((nI_leI ha hb).mpr q)
theorem ix2 (a b : Nat) : nI a + nI b = nI (a + b) := nI_add a b
theorem ix4 (a m p w : Nat) : nI a + nI m * nI p + nI w = nI (a + m * p + w) := by rw [pk_mul, nI_add, nI_add]
theorem ix5 (b m p w : Nat) : nI b + nI m * nI p + nI w = nI (b + w + m * p) := by rw [pk_mul, nI_add, nI_add]; congr 1; omega
theorem ix3 (a m p : Nat) : nI a + nI m * nI p = nI (a + m * p) := by rw [pk_mul, nI_add]
/-- the rest that a division leaves, as the machine has it -/
def jrem (x y : Int32) : Int32 := x - x / y * y
-- ===== writing =====
theorem xup_s {im : XI} {a i : Nat} {v : Int32} : (xup im a i v) a = upd (im a) i v := by
  funext k; simp [xup, upd]
theorem xup_o {im : XI} {a a' i : Nat} {v : Int32} (h : a' ≠ a) : (xup im a i v) a' = im a' := by
  funext k; simp [xup, h]
theorem xup_at {im : XI} {a i : Nat} {v : Int32} : xup im a i v a i = v := by simp [xup]
theorem xup_ne {im : XI} {a i k : Nat} {v : Int32} (h : k ≠ i) : xup im a i v a k = im a k := by simp [xup, h]
theorem upd_at {f : Nat → Int32} {k : Nat} {x : Int32} : upd f k x k = x := pk_us
theorem upd_ne {f : Nat → Int32} {k j : Nat} {x : Int32} (h : j ≠ k) : upd f k x j = f j := pk_un h
theorem upd_upd {f : Nat → Int32} {k : Nat} {x y : Int32} : upd (upd f k x) k y = upd f k y := by
  funext j; by_cases h : j = k
  · subst h; rw [upd_at, upd_at]
  · rw [upd_ne h, upd_ne h, upd_ne h]
theorem upd_self {f : Nat → Int32} {k : Nat} {x : Int32} (h : f k = x) : upd f k x = f := by
  funext j; by_cases hj : j = k
  · subst hj; rw [upd_at, h]
  · rw [upd_ne hj]
-- ===== the reference's places that nobody asks for behind a call; s apart =====
def mgb (a _k : Nat) : Prop := a = 1 ∨ a = 6 ∨ a = 7
def mgL (a k : Nat) : Prop := a = 1 ∨ a = 3 ∨ a = 5 ∨ a = 6 ∨ a = 7 ∨ a = 12 ∨ (a = 0 ∧ (k = 5 ∨ k = 6 ∨ k = 7 ∨ k = 8 ∨ k = 14))
def mkL (im im' : XI) : Prop := ∀ a k, ¬ mgL a k → im' a k = im a k
theorem mgbL {a k : Nat} (h : mgb a k) : mgL a k := by
  rcases h with h | h | h
  · exact Or.inl h
  · exact Or.inr (Or.inr (Or.inr (Or.inl h)))
  · exact Or.inr (Or.inr (Or.inr (Or.inr (Or.inl h))))
def mk (im im' : XI) : Prop := ∀ a k, ¬ mgb a k → im' a k = im a k
theorem mk.rf {im : XI} : mk im im := fun _ _ _ => rfl
theorem mk.tr {a b c : XI} (h : mk a b) (h2 : mk b c) : mk a c := fun q k hq => (h2 q k hq).trans (h q k hq)
theorem mk.up {im im0 : XI} {a i : Nat} {v : Int32} (h : mk im0 im) (hg : mgb a i) : mk im0 (xup im a i v) := by
  intro q k hq
  rw [← h q k hq]
  unfold xup
  rw [if_neg]
  rintro ⟨rfl, rfl⟩
  exact hq hg
-- ===== the island of the reference, in its row s =====
def rest0 (t ph bt : Int32) : Int32 := jrem (t + ph) bt
def deaf0 (t m r : Int32) : Int32 := if r = 0 ∧ ¬ jrem t 3 = jrem m 3 then 1 else 0
def blinks0 (kd m t r : Int32) : Int32 :=
  if kd = 2 then deaf0 t m r else if kd = 3 then (if r < 2 then 1 else 0) else if kd = 4 then (if r = 0 ∨ jrem t 12 = m then 1 else 0) else if kd = 5 then (if deaf0 t m r = 1 ∧ 6 < m then 1 else 0) else if kd = 6 then (if r = 0 ∨ jrem t 7 = jrem m 7 then 1 else 0) else (if r = 0 then 1 else 0)
def tries0 (kd m dn : Int32) : Int32 :=
  if kd = 1 then 2 + m / 5 else if kd = 3 then 1 + dn else if kd = 4 then 2 * (2 + m / 5) else if kd = 5 then 4 else if kd = 6 then 0 else 1
def held0 (v lo hi : Int32) : Int32 := if v < lo then lo else if hi < v then hi else v
def join0 (c x y : Int32) : Int32 :=
  if c = 43 then x + y else if c = 45 then x - y else if c = 42 then x * y else if c = 47 then (if y = 0 then 0 else if y = -1 then -x else x / y) else if c = 37 then (if y = 0 ∨ y = -1 then 0 else jrem x y)
  else if c = 60 then (if x < y then 1 else 0) else if c = 62 then (if y < x then 1 else 0) else if c = 61 then (if x = y then 1 else 0) else if c = 38 then (if ¬ x = 0 ∧ ¬ y = 0 then 1 else 0) else (if ¬ x = 0 ∨ ¬ y = 0 then 1 else 0)
/-- how many lie open behind k steps -/
def wl (s : Nat → Int32) (b : Nat) : Nat → Nat
  | 0 => 0
  | k + 1 => if s (b + 1 + 2 * k) = 0 ∨ s (b + 1 + 2 * k) = 1 then wl s b k + 1 else if s (b + 1 + 2 * k) = 2 then wl s b k else wl s b k - 1
/-- one step of a text over what lies open -/
def ev1 (w v : Int32) (nm : Int32 → Int32) (n : Nat) (p : Nat → Int32) : Nat → Int32 :=
  if w = 0 then upd p n v else if w = 1 then upd p n (nm v) else if w = 2 then upd p (n - 1) (if p (n - 1) = 0 then 1 else 0) else upd p (n - 2) (join0 v (p (n - 2)) (p (n - 1)))
def evN (s : Nat → Int32) (b : Nat) (nm : Int32 → Int32) : Nat → Nat → Int32
  | 0 => fun _ => 0
  | k + 1 => ev1 (s (b + 1 + 2 * k)) (s (b + 2 + 2 * k)) nm (wl s b k) (evN s b nm k)
def nameC (u : Nat) (i : Nat) : Int32 := nms (3 * u + i)
def signs : List Int32 := [124, 38, 60, 61, 62, 43, 45, 42, 47, 37]
/-- a step that fits where d lie open -/
def stepOk (u : Nat) (w v : Int32) (d : Nat) : Prop :=
  (w = 0 ∧ ∃ n : Nat, n < 10000 ∧ v = nI n) ∨ (w = 1 ∧ ∃ j : Nat, j < 3 ∧ v = nameC u j) ∨ (w = 2 ∧ 1 ≤ d) ∨ (w = 3 ∧ 2 ≤ d ∧ v ∈ signs)
def textOk (s : Nat → Int32) (u : Nat) : Prop := ∃ c : Nat, c ≤ 60 ∧ s (50 + 125 * u) = nI c ∧ (∀ k, k < c → stepOk u (s (50 + 125 * u + 1 + 2 * k)) (s (50 + 125 * u + 2 + 2 * k)) (wl s (50 + 125 * u) k)) ∧ (0 < c → wl s (50 + 125 * u) c = 1)
def nm0 (u : Nat) (a b c : Int32) (v : Int32) : Int32 := if v = nameC u 0 then a else if v = nameC u 1 then b else c
def nnat (x : Int32) : Nat := x.toNatClampNeg
/-- what a text gives -/
def work0 (s : Nat → Int32) (u : Nat) (a b c : Int32) : Int32 := evN s (50 + 125 * u) (nm0 u a b c) (nnat (s (50 + 125 * u))) 0
def told0 (s : Nat → Int32) (r i t : Int32) : Int32 := held0 (if 0 < s 50 then work0 s 0 r i t else i) 0 1
def on0 (s : Nat → Int32) (p o l : Int32) : Int32 := held0 (if 0 < s 175 then work0 s 1 p o l else p) 0 9
/-- whether p is shut at t, were beat and phase these -/
def shutG (s : Nat → Int32) (p : Nat) (t bt ph : Int32) : Int32 :=
  told0 s (rest0 t ph bt) (blinks0 (s (8 + 4 * p)) (s (9 + 4 * p)) t (rest0 t ph bt)) (jrem t 24)
def shut0 (s : Nat → Int32) (p : Nat) : Int32 := shutG s p (s 0) (s (10 + 4 * p)) (s (11 + 4 * p))
def shutN (s : Nat → Int32) : Nat → Int32
  | 0 => 0
  | n + 1 => shutN s n ||| (shut0 s n <<< (nI n &&& 31))
def shutAll (s : Nat → Int32) : Int32 := shutN s (nnat (s 4))
def IvP (s : Nat → Int32) (np : Nat) : Prop := np ≤ 6 ∧ s 4 = nI np ∧ ∀ p, p < np → (∃ k : Nat, k < 7 ∧ s (8 + 4 * p) = nI k) ∧ (∃ b : Nat, 0 < b ∧ b ≤ 12 ∧ s (10 + 4 * p) = nI b)
def IvD (s : Nat → Int32) (np nd : Nat) : Prop := nd ≤ 6 ∧ s 5 = nI nd ∧ ∀ d, d < nd → (∃ w : Nat, w < np ∧ s (32 + 3 * d) = nI w) ∧ (∃ q : Nat, q ≤ 99 ∧ s (33 + 3 * d) = nI q) ∧ (∃ w : Nat, w < 64 ∧ s (34 + 3 * d) = nI w)
def IvR (s : Nat → Int32) : Prop := (∃ n : Nat, n ≤ 60 ∧ s 2 = nI n) ∧ (∃ n : Nat, n ≤ 24 ∧ s 3 = nI n) ∧ textOk s 0 ∧ textOk s 1
/-- what always holds of the row s, with np people and nd doings -/
def Iv (s : Nat → Int32) (np nd : Nat) : Prop := IvP s np ∧ IvD s np nd ∧ IvR s
theorem mk.L {im im' : XI} (h : mk im im') : mkL im im' := fun a k hk => h a k (fun hg => hk (mgbL hg))
theorem mkL.tr {a b c : XI} (h : mkL a b) (h2 : mkL b c) : mkL a c := fun q k hq => (h2 q k hq).trans (h q k hq)
theorem mkL.up {im im0 : XI} {a i : Nat} {v : Int32} (h : mkL im0 im) (hg : mgL a i) : mkL im0 (xup im a i v) := by
  intro q k hq
  rw [← h q k hq]
  unfold xup
  rw [if_neg]
  rintro ⟨rfl, rfl⟩
  exact hq hg
def ovl (im : XI) (a1 a0 n : Nat) : XI := fun a k => if a = a1 ∧ k < n then im a0 k else im a k
theorem ovl_0 {im : XI} {a1 a0 : Nat} : ovl im a1 a0 0 = im := by funext a k; simp [ovl]
theorem ovl_s {im : XI} {a1 a0 i : Nat} (h : a0 ≠ a1) : xup (ovl im a1 a0 i) a1 i (ovl im a1 a0 i a0 i) = ovl im a1 a0 (i + 1) := by
  funext a k
  simp only [xup, ovl]
  by_cases ha : a = a1
  · subst ha
    by_cases hk : k = i
    · subst hk; simp [h]
    · by_cases h2 : k < i
      · simp [hk, h2, Nat.lt_succ_of_lt h2]
      · have : ¬ k < i + 1 := by omega
        simp [hk, h2, this]
  · simp [ha]
def many0 (x : Int32) : Nat → Int32
  | 0 => 0
  | n + 1 => many0 x n + ((x >>> (nI n &&& 31)) &&& 1)
/-- a doing gets on by so much, were so many shut -/
def onBy0 (s : Nat → Int32) (d : Nat) (shut : Int32) : Int32 :=
  on0 s (tries0 (s (8 + 4 * nnat (s (32 + 3 * d)))) (s (9 + 4 * nnat (s (32 + 3 * d)))) (s 5)) (many0 (shut &&& ((1 <<< (s (32 + 3 * d) &&& 31)) ^^^ (-1))) 6) (s (33 + 3 * d))
/-- behind a tick with so many shut: the doing's parts -/
def on1 (s : Nat → Int32) (d : Nat) (shut : Int32) : Int32 :=
  if s (33 + 3 * d) = 0 ∨ ¬ (s (34 + 3 * d) &&& (shut ^^^ (-1))) = 0 then s (33 + 3 * d) else held0 (s (33 + 3 * d) - onBy0 s d shut) 0 99
theorem bl_3n {kd m t r : Int32} (h : kd = 3) (c : 2 ≤ r) : 0 = blinks0 kd m t r := by
  subst h
  have c2 : ¬ r < 2 := Int32.not_lt.mpr c
  have e1 : ¬ (3 : Int32) = 2 := by decide
  unfold blinks0
  rw [if_neg e1, if_pos rfl, if_neg c2]
theorem wl_le (s : Nat → Int32) (b k : Nat) : wl s b k ≤ k := by
  induction k with
  | zero => exact Nat.le_refl 0
  | succ k ih =>
    unfold wl
    split
    · omega
    · split <;> omega
theorem upd_agree {f g : Nat → Int32} {i j : Nat} {v : Int32} (h : j ≠ i → f j = g j) : upd f i v j = upd g i v j := by
  by_cases hj : j = i
  · subst hj; rw [upd_at, upd_at]
  · rw [upd_ne hj, upd_ne hj, h hj]
theorem nI_lt0 {n : Nat} (hn : n < 2 ^ 31) : (0 < nI n) ↔ 0 < n := by
  rw [i_lt, nI_toInt hn]
  show (0 : Int) < n ↔ 0 < n
  omega
theorem nameC_lt (u j : Nat) : nameC u j = nI (nnat (nameC u j)) ∧ nnat (nameC u j) < 128 := by
  have h : ∀ i : Nat, nms i = nI (nnat (nms i)) ∧ nnat (nms i) < 128 := by
    intro i
    match i with
    | 0 => decide
    | 1 => decide
    | 2 => decide
    | 3 => decide
    | 4 => decide
    | n + 5 =>
      show (108 : Int32) = nI (nnat 108) ∧ nnat 108 < 128
      decide
  exact h _
theorem mg1 (k : Nat) : mgb 1 k := by simp [mgb]
theorem mg6 (k : Nat) : mgb 6 k := by simp [mgb]
theorem mg7 (k : Nat) : mgb 7 k := by simp [mgb]
theorem nnat_nI {n : Nat} (h : n < 2 ^ 31) : nnat (nI n) = n := nI_clamp h
theorem textOk_c {s s' : Nat → Int32} {u : Nat} (hu : u < 2) (h : ∀ k, 50 ≤ k → k < 300 → s' k = s k) (ht : textOk s u) : textOk s' u := by
  obtain ⟨c, h1, h2, h3, h4⟩ := ht
  have hw : ∀ k, k ≤ c → wl s' (50 + 125 * u) k = wl s (50 + 125 * u) k := by
    intro k
    induction k with
    | zero => intro _; rfl
    | succ k ih =>
      intro hk
      unfold wl
      rw [ih (by omega), h _ (by omega) (by omega)]
  refine ⟨c, h1, by rw [h _ (by omega) (by omega)]; exact h2, fun k hk => ?_, fun hc => by rw [hw c (Nat.le_refl c)]; exact h4 hc⟩
  rw [hw k (by omega), h _ (by omega) (by omega), h _ (by omega) (by omega)]
  exact h3 k hk
theorem IvR_c {s s' : Nat → Int32} (h2 : s' 2 = s 2) (h3 : s' 3 = s 3) (h : ∀ k, 50 ≤ k → k < 300 → s' k = s k) (hI : IvR s) : IvR s' :=
  ⟨by rw [h2]; exact hI.1, by rw [h3]; exact hI.2.1, textOk_c (by decide) h hI.2.2.1, textOk_c (by decide) h hI.2.2.2⟩
theorem IvP_c {s s' : Nat → Int32} {np : Nat} (h4 : s' 4 = s 4) (h : ∀ p, p < 6 → s' (8 + 4 * p) = s (8 + 4 * p) ∧ s' (10 + 4 * p) = s (10 + 4 * p)) (hI : IvP s np) : IvP s' np := by
  refine ⟨hI.1, by rw [h4]; exact hI.2.1, fun p hp => ?_⟩
  have hp6 : p < 6 := Nat.lt_of_lt_of_le hp hI.1
  rw [(h p hp6).1, (h p hp6).2]
  exact hI.2.2 p hp
theorem IvD_c {s s' : Nat → Int32} {np nd : Nat} (h5 : s' 5 = s 5) (h : ∀ d, d < 6 → s' (32 + 3 * d) = s (32 + 3 * d) ∧ s' (33 + 3 * d) = s (33 + 3 * d) ∧ s' (34 + 3 * d) = s (34 + 3 * d)) (hI : IvD s np nd) : IvD s' np nd := by
  refine ⟨hI.1, by rw [h5]; exact hI.2.1, fun d hd => ?_⟩
  have hd6 : d < 6 := Nat.lt_of_lt_of_le hd hI.1
  rw [(h d hd6).1, (h d hd6).2.1, (h d hd6).2.2]
  exact hI.2.2 d hd
/-- a place that the invariant doesn't speak of -/
theorem Iv_free {s : Nat → Int32} {np nd i : Nat} {v : Int32} (hI : Iv s np nd) (h : i = 0 ∨ i = 1 ∨ (∃ p, p < 6 ∧ (i = 9 + 4 * p ∨ i = 11 + 4 * p)) ∨ 300 ≤ i) : Iv (upd s i v) np nd := by
  refine ⟨IvP_c (upd_ne (by omega)) (fun p hp => ⟨upd_ne (by omega), upd_ne (by omega)⟩) hI.1, IvD_c (upd_ne (by omega)) (fun d hd => ⟨upd_ne (by omega), upd_ne (by omega), upd_ne (by omega)⟩) hI.2.1, IvR_c (upd_ne (by omega)) (upd_ne (by omega)) (fun k hk hk2 => upd_ne (by omega)) hI.2.2⟩
theorem Iv_parts {s : Nat → Int32} {np nd d q : Nat} (hI : Iv s np nd) (hd : d < 6) (hq : q ≤ 99) : Iv (upd s (33 + 3 * d) (nI q)) np nd := by
  refine ⟨IvP_c (upd_ne (by omega)) (fun p hp => ⟨upd_ne (by omega), upd_ne (by omega)⟩) hI.1, ⟨hI.2.1.1, by rw [upd_ne (by omega)]; exact hI.2.1.2.1, fun e he => ?_⟩, IvR_c (upd_ne (by omega)) (upd_ne (by omega)) (fun k hk hk2 => upd_ne (by omega)) hI.2.2⟩
  obtain ⟨h1, h2, h3⟩ := hI.2.1.2.2 e he
  rw [upd_ne (by omega), upd_ne (j := 34 + 3 * e) (by omega)]
  refine ⟨h1, ?_, h3⟩
  by_cases hed : e = d
  · subst hed; exact ⟨q, hq, upd_at⟩
  · rw [upd_ne (by omega)]; exact h2
theorem Iv_watch {s : Nat → Int32} {np nd d q : Nat} (hI : Iv s np nd) (hd : d < 6) (hq : q < 64) : Iv (upd s (34 + 3 * d) (nI q)) np nd := by
  refine ⟨IvP_c (upd_ne (by omega)) (fun p hp => ⟨upd_ne (by omega), upd_ne (by omega)⟩) hI.1, ⟨hI.2.1.1, by rw [upd_ne (by omega)]; exact hI.2.1.2.1, fun e he => ?_⟩, IvR_c (upd_ne (by omega)) (upd_ne (by omega)) (fun k hk hk2 => upd_ne (by omega)) hI.2.2⟩
  obtain ⟨h1, h2, h3⟩ := hI.2.1.2.2 e he
  rw [upd_ne (by omega), upd_ne (j := 33 + 3 * e) (by omega)]
  refine ⟨h1, h2, ?_⟩
  by_cases hed : e = d
  · subst hed; exact ⟨q, hq, upd_at⟩
  · rw [upd_ne (by omega)]; exact h3
theorem held_in {v lo hi : Int32} (h : lo ≤ hi) : lo ≤ held0 v lo hi ∧ held0 v lo hi ≤ hi := by
  unfold held0
  simp only [i_le, i_lt] at *
  split
  · exact ⟨Int.le_refl _, h⟩
  · split
    · exact ⟨h, Int.le_refl _⟩
    · constructor <;> omega
theorem held_nat (v : Int32) {n : Nat} {y : Int32} (hy : y = nI n) (hn : n < 2 ^ 31) : ∃ q : Nat, q ≤ n ∧ held0 v 0 y = nI q := by
  have h0 : (0 : Int32) ≤ y := by subst hy; exact nI_pos' hn
  obtain ⟨h1, h2⟩ := held_in (v := v) h0
  exact (in_c hy hn).mp ⟨h1, h2⟩
theorem on1_nat {s : Nat → Int32} {np nd d : Nat} (sh : Int32) (hI : Iv s np nd) (hd : d < nd) : ∃ q : Nat, q ≤ 99 ∧ on1 s d sh = nI q := by
  unfold on1
  split
  · exact (hI.2.1.2.2 d hd).2.1
  · exact held_nat _ rfl (by decide)
-- ===== ticks =====
def tickS (s : Nat → Int32) (sh : Int32) : Nat → Nat → Int32
  | 0 => s
  | k + 1 => upd (tickS s sh k) (33 + 3 * k) (on1 (tickS s sh k) k sh)
/-- whether the doing loses its last parts -/
def ends (s : Nat → Int32) (d : Nat) (sh : Int32) : Int32 := b2i (¬ s (33 + 3 * d) = 0 ∧ on1 s d sh = 0)
def tickN (s : Nat → Int32) (sh : Int32) : Nat → Int32
  | 0 => 0
  | k + 1 => tickN s sh k + ends (tickS s sh k) k sh
def tick1 (s : Nat → Int32) : Nat → Int32 := upd (tickS s (shutAll s) (nnat (s 5))) 0 (s 0 + 1)
def tickA (s : Nat → Int32) : Int32 := tickN s (shutAll s) (nnat (s 5))
def run1 (f : (Nat → Int32) → Nat → Int32) (s : Nat → Int32) : Nat → Nat → Int32
  | 0 => s
  | k + 1 => f (run1 f s k)
def runA (f : (Nat → Int32) → Nat → Int32) (g : (Nat → Int32) → Int32) (s : Nat → Int32) : Nat → Int32
  | 0 => 0
  | k + 1 => runA f g s k + g (run1 f s k)
def ushr8 (z : Int32) : Int32 := (z.toUInt32 >>> (Int32.toUInt32 8 &&& Int32.toUInt32 31)).toInt32
def zn (z : Int32) : Int32 := z * 1103515245 + 12345
/-- the draws ahead of a tick by draws -/
def shift1 (s : Nat → Int32) : Nat → Int32 :=
  if s 4 ≤ 0 then s else
    if ¬ jrem (ushr8 (zn (s 1))) 4 = 0 then upd s 1 (zn (s 1)) else
      upd (upd s 1 (zn (zn (zn (s 1))))) (11 + 4 * nnat (jrem (ushr8 (zn (zn (s 1)))) (s 4))) (jrem (ushr8 (zn (zn (zn (s 1))))) (s (10 + 4 * nnat (jrem (ushr8 (zn (zn (s 1)))) (s 4)))))
theorem tickS_o {s : Nat → Int32} {sh : Int32} {n i : Nat} (h : ∀ k, k < n → i ≠ 33 + 3 * k) : tickS s sh n i = s i := by
  induction n with
  | zero => rfl
  | succ n ih =>
    unfold tickS
    rw [upd_ne (h n (by omega)), ih (fun k hk => h k (by omega))]
theorem tickS_Iv {s : Nat → Int32} {sh : Int32} {np nd n : Nat} (hI : Iv s np nd) (hn : n ≤ nd) : Iv (tickS s sh n) np nd := by
  induction n with
  | zero => exact hI
  | succ n ih =>
    have h1 := ih (by omega)
    have hnd := hI.2.1.1
    obtain ⟨q, hq, he⟩ := on1_nat sh h1 (d := n) (by omega)
    unfold tickS
    rw [he]
    exact Iv_parts h1 (by omega) hq
theorem tick1_Iv {s : Nat → Int32} {np nd : Nat} (hI : Iv s np nd) : Iv (tick1 s) np nd := by
  unfold tick1
  rw [hI.2.1.2.1, nnat_nI (by have := hI.2.1.1; omega)]
  exact Iv_free (tickS_Iv hI (Nat.le_refl _)) (Or.inl rfl)
theorem jrem_nat {x : Int32} {n : Nat} (hx : 0 ≤ x) (hn : 0 < n) (hn2 : n < 2 ^ 31) : ∃ i : Nat, i < n ∧ jrem x (nI n) = nI i := by
  rw [i_ge0] at hx
  obtain ⟨j, hj, rfl⟩ := nI_ex (x := x) (n := 2147483648) hx (by have := (i_rng x).2; omega)
  exact ⟨j % n, Nat.mod_lt _ hn, pk_rem (by omega) hn hn2⟩
theorem ushr8_pos (z : Int32) : 0 ≤ ushr8 z := by
  have h := pk_ushr z 8 8 (by decide)
  have h2 := z.toBitVec.isLt
  rw [i_ge0]
  have h3 : (ushr8 z).toBitVec.toNat < 2 ^ 31 := by
    show ((z.toUInt32 >>> (Int32.toUInt32 8 &&& Int32.toUInt32 31)).toInt32).toBitVec.toNat < 2 ^ 31
    rw [h]
    omega
  have h4 : (ushr8 z).toInt = (ushr8 z).toBitVec.toInt := rfl
  rw [h4, BitVec.toInt_eq_toNat_of_lt (by omega)]
  omega
theorem shift1_Iv {s : Nat → Int32} {np nd : Nat} (hI : Iv s np nd) : Iv (shift1 s) np nd := by
  unfold shift1
  split
  · exact hI
  · rename_i h
    split
    · exact Iv_free hI (Or.inr (Or.inl rfl))
    · have h4 := hI.1.2.1
      have hnp := hI.1.1
      rw [h4] at h ⊢
      have h0 : 0 < np := by
        rcases Nat.eq_zero_or_pos np with e | e
        · exact absurd (by rw [e]; decide) h
        · exact e
      obtain ⟨i, hi, he⟩ := jrem_nat (ushr8_pos (zn (zn (s 1)))) h0 (by omega)
      rw [he, nnat_nI (by omega)]
      exact Iv_free (Iv_free hI (Or.inr (Or.inl rfl))) (Or.inr (Or.inr (Or.inl ⟨i, by omega, Or.inr rfl⟩)))
theorem run1_Iv {f : (Nat → Int32) → Nat → Int32} {s : Nat → Int32} {np nd : Nat} (hf : ∀ s, Iv s np nd → Iv (f s) np nd) (hI : Iv s np nd) (k : Nat) : Iv (run1 f s k) np nd := by
  induction k with
  | zero => exact hI
  | succ k ih => exact hf _ ih
theorem blinks0_01 (kd m t r : Int32) : blinks0 kd m t r = 0 ∨ blinks0 kd m t r = 1 := by
  unfold blinks0 deaf0
  repeat' split
  all_goals first | exact Or.inl rfl | exact Or.inr rfl
-- ===== what a call comes to: the error's number (0: none), the answer, the row behind it =====
abbrev R3 : Type := Nat × Int32 × (Nat → Int32)
def rE (e : Nat) (s : Nat → Int32) : R3 := (e, -1000000000 - nI e, s)
def rO (x : Int32) (s : Nat → Int32) : R3 := (0, x, s)
def er (im : XI) (e : Nat) : XI := if e = 0 then im else xup im 4 e (im 4 e + 1)
def Pm (im : XI) (r : R3) (x : Int32) (im' : XI) : Prop := x = r.2.1 ∧ im' 1 = r.2.2 ∧ mkL (er im r.1) im'
theorem Pm.ok {im im' : XI} {s' : Nat → Int32} {x y : Int32} (hx : x = y) (hs : im' 1 = s') (hm : mk im im') : Pm im (rO y s') x im' := ⟨hx, hs, hm.L⟩
theorem Pm.okL {im im' : XI} {s' : Nat → Int32} {x y : Int32} (hx : x = y) (hs : im' 1 = s') (hm : mkL im im') : Pm im (rO y s') x im' := ⟨hx, hs, hm⟩
theorem mk_er {im im2 : XI} {e : Nat} (hm : mkL im im2) (he : 0 < e) : mkL (er im e) (xup im2 4 e (im2 4 e + 1)) := by
  intro a k hk
  unfold er
  rw [if_neg (by omega)]
  have h4 : im2 4 e = im 4 e := hm 4 e (by simp [mgL])
  simp only [xup, h4]
  split
  · rfl
  · exact hm a k hk
theorem Pm.er {im im2 : XI} {s : Nat → Int32} {e : Nat} {x : Int32} (hx : x = -1000000000 - nI e) (hs : im2 1 = s) (hm : mk im im2) (he : 0 < e) : Pm im (rE e s) x (xup im2 4 e (im2 4 e + 1)) :=
  ⟨hx, (xup_o (by decide)).trans hs, mk_er hm.L he⟩
theorem Pm.erL {im im2 : XI} {s : Nat → Int32} {e : Nat} {x : Int32} (hx : x = -1000000000 - nI e) (hs : im2 1 = s) (hm : mkL im im2) (he : 0 < e) : Pm im (rE e s) x (xup im2 4 e (im2 4 e + 1)) :=
  ⟨hx, (xup_o (by decide)).trans hs, mk_er hm he⟩
def why0 (s : Nat → Int32) (n most : Int32) : Int32 := if ¬ (1 ≤ n ∧ n ≤ most) then 1 else if ¬ s 0 + n ≤ 99999 then 3 else 0
def opRun (f : (Nat → Int32) → Nat → Int32) (g : (Nat → Int32) → Int32) (s : Nat → Int32) (n most : Int32) : R3 :=
  if ¬ (1 ≤ n ∧ n ≤ most) then rE 1 s else if ¬ s 0 + n ≤ 99999 then rE 3 s else rO (runA f g s (nnat n)) (run1 f s (nnat n))
def opTicks (s : Nat → Int32) (n : Int32) : R3 := opRun tick1 tickA s n 200
def opLoose (s : Nat → Int32) (n : Int32) : R3 := opRun (fun s => tick1 (shift1 s)) (fun s => tickA (shift1 s)) s n 30
abbrev okP (s : Nat → Int32) (v : Int32) : Prop := 0 ≤ v ∧ v ≤ s 4 - 1
abbrev okD (s : Nat → Int32) (v : Int32) : Prop := 0 ≤ v ∧ v ≤ s 5 - 1
abbrev okSet (s : Nat → Int32) (v : Int32) : Prop := 0 ≤ v ∧ v ≤ (1 <<< (s 4 &&& 31)) - 1
abbrev okKm (km : Int32) : Prop := 0 ≤ km ∧ km ≤ 69
abbrev okBt (b f : Int32) : Prop := (1 ≤ b ∧ b ≤ 12) ∧ 0 ≤ f ∧ f ≤ b - 1
def newP (s : Nat → Int32) (p : Nat) (km b f : Int32) : Nat → Int32 := upd (upd (upd (upd (upd s (8 + 4 * p) (km / 10)) (9 + 4 * p) (jrem km 10)) (10 + 4 * p) b) (11 + 4 * p) f) 4 (s 4 + 1)
def newD (s : Nat → Int32) (d : Nat) (v q w : Int32) : Nat → Int32 := upd (upd (upd (upd s (32 + 3 * d) v) (33 + 3 * d) q) (34 + 3 * d) w) 5 (s 5 + 1)
abbrev under0 (x y : Int32) : Prop := x = y ∨ (¬ x = 0 ∧ ((x = 4 ∧ y = 1) ∨ (x = 5 ∧ y = 2) ∨ y = 0))
def abv (x : Int32) : Int32 := if x = 4 then 1 else if x = 5 then 2 else 0
def opPerson (s : Nat → Int32) (km b f : Int32) : R3 := if ¬ (okKm km ∧ okBt b f) then rE 1 s else if s 4 = 6 then rE 4 s else rO (s 4) (newP s (nnat (s 4)) km b f)
def opPersonIs (s : Nat → Int32) (v w : Int32) : R3 := if ¬ (okP s v ∧ (0 ≤ w ∧ w ≤ 4)) then rE 1 s else rO (if w < 4 then s (8 + nnat w + 4 * nnat v) else shut0 s (nnat v)) s
def opBecome (s : Nat → Int32) (v km : Int32) : R3 := if ¬ (okP s v ∧ okKm km) then rE 1 s else rO (s (8 + 4 * nnat v)) (upd (upd s (9 + 4 * nnat v) (jrem km 10)) (8 + 4 * nnat v) (km / 10))
def opAs (s : Nat → Int32) (v k : Int32) : R3 := if ¬ (okP s v ∧ (0 ≤ k ∧ k ≤ 6)) then rE 1 s else if under0 (s (8 + 4 * nnat v)) k then rO (s (9 + 4 * nnat v)) s else rE 5 s
def opBeats (s : Nat → Int32) (v b f : Int32) : R3 := if ¬ (okP s v ∧ okBt b f) then rE 1 s else rO (s (10 + 4 * nnat v)) (upd (upd s (11 + 4 * nnat v) f) (10 + 4 * nnat v) b)
def opDoing (s : Nat → Int32) (v q w : Int32) : R3 := if ¬ (okP s v ∧ (0 ≤ q ∧ q ≤ 99) ∧ okSet s w ∧ ¬ ((w >>> (v &&& 31)) &&& 1) = 1) then rE 1 s else if s 5 = 6 then rE 4 s else rO (s 5) (newD s (nnat (s 5)) v q w)
def opDoingIs (s : Nat → Int32) (v w : Int32) : R3 := if ¬ (okD s v ∧ (0 ≤ w ∧ w ≤ 3)) then rE 1 s else rO (if w < 3 then s (32 + nnat w + 3 * nnat v) else onBy0 s (nnat v) (shutAll s)) s
def opSets (s : Nat → Int32) (v q : Int32) : R3 := if ¬ (okD s v ∧ (0 ≤ q ∧ q ≤ 99)) then rE 1 s else rO (s (33 + 3 * nnat v)) (upd s (33 + 3 * nnat v) q)
def opShut (s : Nat → Int32) : R3 := rO (shutAll s) s
def opLaw (s : Nat → Int32) (u a b c : Int32) : R3 := if ¬ (0 ≤ u ∧ u ≤ 1) then rE 1 s else rO (if u = 0 then told0 s a b c else on0 s a b c) s
def opTick (s : Nat → Int32) (v : Int32) : R3 := if ¬ (0 ≤ v ∧ v ≤ 99999) then rE 1 s else rO (s 0) (upd s 0 v)
def opSeed (s : Nat → Int32) (v : Int32) : R3 := rO (s 1) (upd s 1 v)

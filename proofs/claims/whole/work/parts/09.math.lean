-- ===== plain numbers =====
def b2i (p : Prop) [Decidable p] : Int32 := if p then 1 else 0
theorem b2i_z {p : Prop} [Decidable p] : (b2i p = 0) ↔ ¬ p := by
  unfold b2i; by_cases h : p <;> simp [h]
theorem b2i_nz {p : Prop} [Decidable p] : (¬ b2i p = 0) ↔ p := by
  unfold b2i; by_cases h : p <;> simp [h]
theorem b2i_o {p : Prop} [Decidable p] : (b2i p = 1) ↔ p := by
  unfold b2i; by_cases h : p <;> simp [h]
theorem b2i_01 (p : Prop) [Decidable p] : b2i p = 0 ∨ b2i p = 1 := by
  unfold b2i; by_cases h : p <;> simp [h]
theorem b2i_t {p : Prop} [Decidable p] (h : p) : b2i p = 1 := by simp [b2i, h]
theorem b2i_f {p : Prop} [Decidable p] (h : ¬ p) : b2i p = 0 := by simp [b2i, h]
theorem b2i_c {p q : Prop} [Decidable p] [Decidable q] (h : p ↔ q) : b2i p = b2i q := by
  unfold b2i; by_cases hp : p
  · rw [if_pos hp, if_pos (h.mp hp)]
  · rw [if_neg hp, if_neg (fun x => hp (h.mpr x))]
theorem i_le (a b : Int32) : a ≤ b ↔ a.toInt ≤ b.toInt := Int32.le_iff_toInt_le
theorem i_lt (a b : Int32) : a < b ↔ a.toInt < b.toInt := Int32.lt_iff_toInt_lt
theorem i_eq (a b : Int32) : a = b ↔ a.toInt = b.toInt := Int32.toInt_inj.symm
theorem i_ge0 (x : Int32) : (0 ≤ x) ↔ (0 ≤ x.toInt) := by rw [i_le]; rfl
theorem i_rng (x : Int32) : -2147483648 ≤ x.toInt ∧ x.toInt < 2147483648 := by
  have h1 := Int32.le_toInt x
  have h2 := Int32.toInt_lt x
  constructor
  · simpa using h1
  · simpa using h2
theorem nI_ex {x : Int32} {n : Nat} (h0 : 0 ≤ x.toInt) (h1 : x.toInt < n) : ∃ i : Nat, i < n ∧ x = nI i := by
  refine ⟨x.toInt.toNat, by omega, ?_⟩
  rw [i_eq, nI_toInt (by have := (i_rng x).2; omega)]
  omega
theorem nI_m1 (n : Nat) (h : n < 2 ^ 31) : (nI n - 1).toInt = (n : Int) - 1 := by
  cases n with
  | zero => rfl
  | succ k => rw [nI_pred, nI_toInt (by omega)]; omega
/-- 0 .. n - 1 -/
theorem in_n {x : Int32} {n : Nat} (hn : n < 2 ^ 31) : (0 ≤ x ∧ x ≤ nI n - 1) ↔ ∃ i : Nat, i < n ∧ x = nI i := by
  rw [i_ge0, i_le, nI_m1 n hn]
  constructor
  · rintro ⟨h0, h1⟩
    exact nI_ex h0 (by omega)
  · rintro ⟨i, hi, rfl⟩
    rw [nI_toInt (by omega)]
    omega
/-- 0 .. c -/
theorem in_c {x y : Int32} {n : Nat} (hy : y = nI n) (hn : n < 2 ^ 31) : (0 ≤ x ∧ x ≤ y) ↔ ∃ i : Nat, i ≤ n ∧ x = nI i := by
  subst hy
  rw [i_ge0, i_le, nI_toInt hn]
  constructor
  · rintro ⟨h0, h1⟩
    obtain ⟨i, hi, rfl⟩ := nI_ex (x := x) (n := n + 1) h0 (by omega)
    exact ⟨i, by omega, rfl⟩
  · rintro ⟨i, hi, rfl⟩
    rw [nI_toInt (by omega)]
    omega
theorem in_ab {x y z : Int32} {a n : Nat} (hz : z = nI a) (hy : y = nI n) (ha : a < 2 ^ 31) (hn : n < 2 ^ 31) : (z ≤ x ∧ x ≤ y) ↔ ∃ i : Nat, a ≤ i ∧ i ≤ n ∧ x = nI i := by
  subst hy; subst hz
  rw [i_le, i_le, nI_toInt hn, nI_toInt ha]
  constructor
  · rintro ⟨h0, h1⟩
    obtain ⟨i, hi, rfl⟩ := nI_ex (x := x) (n := n + 1) (by omega) (by omega)
    rw [nI_toInt (by omega)] at h0
    exact ⟨i, by omega, by omega, rfl⟩
  · rintro ⟨i, hi, hi2, rfl⟩
    rw [nI_toInt (by omega)]
    omega
theorem ge_i {a b : Nat} (ha : a < 2 ^ 31) (hb : b < 2 ^ 31) (h : nI a ≤ nI b) : a ≤ b := (nI_leI ha hb).mp h
theorem lt_i {a b : Nat} (ha : a < 2 ^ 31) (hb : b < 2 ^ 31) (h : ¬ nI a ≤ nI b) : b < a := Nat.not_le.mp fun q => h ((nI_leI ha hb).mpr q)
theorem ix2 (a b : Nat) : nI a + nI b = nI (a + b) := nI_add a b
theorem ix4 (a m p w : Nat) : nI a + nI m * nI p + nI w = nI (a + m * p + w) := by rw [pk_mul, nI_add, nI_add]
theorem ix5 (b m p w : Nat) : nI b + nI m * nI p + nI w = nI (b + w + m * p) := by rw [pk_mul, nI_add, nI_add]; congr 1; omega
theorem ix3 (a m p : Nat) : nI a + nI m * nI p = nI (a + m * p) := by rw [pk_mul, nI_add]
/-- the rest that a division leaves, as the machine has it -/
def jrem (x y : Int32) : Int32 := x - x / y * y
-- ===== writing =====
theorem xup_s {im : XI} {a i : Nat} {v : Int32} : (xup im a i v) a = upd (im a) i v := by
  funext k; simp [xup, upd]
theorem xup_o {im : XI} {a a' i : Nat} {v : Int32} (h : a' ≠ a) : (xup im a i v) a' = im a' := by
  funext k; simp [xup, h]
theorem xup_at {im : XI} {a i : Nat} {v : Int32} : xup im a i v a i = v := by simp [xup]
theorem xup_ne {im : XI} {a i k : Nat} {v : Int32} (h : k ≠ i) : xup im a i v a k = im a k := by simp [xup, h]
theorem upd_at {f : Nat → Int32} {k : Nat} {x : Int32} : upd f k x k = x := pk_us
theorem upd_ne {f : Nat → Int32} {k j : Nat} {x : Int32} (h : j ≠ k) : upd f k x j = f j := pk_un h
theorem upd_upd {f : Nat → Int32} {k : Nat} {x y : Int32} : upd (upd f k x) k y = upd f k y := by
  funext j; by_cases h : j = k
  · subst h; rw [upd_at, upd_at]
  · rw [upd_ne h, upd_ne h, upd_ne h]
theorem upd_self {f : Nat → Int32} {k : Nat} {x : Int32} (h : f k = x) : upd f k x = f := by
  funext j; by_cases hj : j = k
  · subst hj; rw [upd_at, h]
  · rw [upd_ne hj]
-- ===== the reference's places that nobody asks for behind a call; s apart =====
def mgb (a k : Nat) : Prop := a = 1 ∨ a = 3 ∨ a = 5 ∨ a = 6 ∨ a = 7 ∨ a = 12 ∨ (a = 0 ∧ (k = 5 ∨ k = 6 ∨ k = 7 ∨ k = 8 ∨ k = 14))
def mk (im im' : XI) : Prop := ∀ a k, ¬ mgb a k → im' a k = im a k
theorem mk.rf {im : XI} : mk im im := fun _ _ _ => rfl
theorem mk.tr {a b c : XI} (h : mk a b) (h2 : mk b c) : mk a c := fun q k hq => (h2 q k hq).trans (h q k hq)
theorem mk.up {im im0 : XI} {a i : Nat} {v : Int32} (h : mk im0 im) (hg : mgb a i) : mk im0 (xup im a i v) := by
  intro q k hq
  rw [← h q k hq]
  unfold xup
  rw [if_neg]
  rintro ⟨rfl, rfl⟩
  exact hq hg
-- ===== the island of the reference, in its row s =====
def rest0 (t ph bt : Int32) : Int32 := jrem (t + ph) bt
def deaf0 (t m r : Int32) : Int32 := if r = 0 ∧ ¬ jrem t 3 = jrem m 3 then 1 else 0
def blinks0 (kd m t r : Int32) : Int32 :=
  if kd = 2 then deaf0 t m r else if kd = 3 then (if r < 2 then 1 else 0) else if kd = 4 then (if r = 0 ∨ jrem t 12 = m then 1 else 0) else if kd = 5 then (if deaf0 t m r = 1 ∧ 6 < m then 1 else 0) else if kd = 6 then (if r = 0 ∨ jrem t 7 = jrem m 7 then 1 else 0) else (if r = 0 then 1 else 0)
def tries0 (kd m dn : Int32) : Int32 :=
  if kd = 1 then 2 + m / 5 else if kd = 3 then 1 + dn else if kd = 4 then 2 * (2 + m / 5) else if kd = 5 then 4 else if kd = 6 then 0 else 1
def held0 (v lo hi : Int32) : Int32 := if v < lo then lo else if hi < v then hi else v
def join0 (c x y : Int32) : Int32 :=
  if c = 43 then x + y else if c = 45 then x - y else if c = 42 then x * y else if c = 47 then (if y = 0 then 0 else if y = -1 then -x else x / y) else if c = 37 then (if y = 0 ∨ y = -1 then 0 else jrem x y)
  else if c = 60 then (if x < y then 1 else 0) else if c = 62 then (if y < x then 1 else 0) else if c = 61 then (if x = y then 1 else 0) else if c = 38 then (if ¬ x = 0 ∧ ¬ y = 0 then 1 else 0) else (if ¬ x = 0 ∨ ¬ y = 0 then 1 else 0)
/-- how many lie open behind k steps -/
def wl (s : Nat → Int32) (b : Nat) : Nat → Nat
  | 0 => 0
  | k + 1 => if s (b + 1 + 2 * k) = 0 ∨ s (b + 1 + 2 * k) = 1 then wl s b k + 1 else if s (b + 1 + 2 * k) = 2 then wl s b k else wl s b k - 1
/-- one step of a text over what lies open -/
def ev1 (w v : Int32) (nm : Int32 → Int32) (n : Nat) (p : Nat → Int32) : Nat → Int32 :=
  if w = 0 then upd p n v else if w = 1 then upd p n (nm v) else if w = 2 then upd p (n - 1) (if p (n - 1) = 0 then 1 else 0) else upd p (n - 2) (join0 v (p (n - 2)) (p (n - 1)))
def evN (s : Nat → Int32) (b : Nat) (nm : Int32 → Int32) : Nat → Nat → Int32
  | 0 => fun _ => 0
  | k + 1 => ev1 (s (b + 1 + 2 * k)) (s (b + 2 + 2 * k)) nm (wl s b k) (evN s b nm k)
def nameC (u : Nat) (i : Nat) : Int32 := nms (3 * u + i)
def signs : List Int32 := [124, 38, 60, 61, 62, 43, 45, 42, 47, 37]
/-- a step that fits where d lie open -/
def stepOk (u : Nat) (w v : Int32) (d : Nat) : Prop :=
  (w = 0 ∧ ∃ n : Nat, n < 10000 ∧ v = nI n) ∨ (w = 1 ∧ ∃ j : Nat, j < 3 ∧ v = nameC u j) ∨ (w = 2 ∧ 1 ≤ d) ∨ (w = 3 ∧ 2 ≤ d ∧ v ∈ signs)
def textOk (s : Nat → Int32) (u : Nat) : Prop := ∃ c : Nat, c ≤ 60 ∧ s (50 + 125 * u) = nI c ∧ (∀ k, k < c → stepOk u (s (50 + 125 * u + 1 + 2 * k)) (s (50 + 125 * u + 2 + 2 * k)) (wl s (50 + 125 * u) k)) ∧ (0 < c → wl s (50 + 125 * u) c = 1)
def nm0 (u : Nat) (a b c : Int32) (v : Int32) : Int32 := if v = nameC u 0 then a else if v = nameC u 1 then b else c
def nnat (x : Int32) : Nat := x.toNatClampNeg
/-- what a text gives -/
def work0 (s : Nat → Int32) (u : Nat) (a b c : Int32) : Int32 := evN s (50 + 125 * u) (nm0 u a b c) (nnat (s (50 + 125 * u))) 0
def told0 (s : Nat → Int32) (r i t : Int32) : Int32 := held0 (if 0 < s 50 then work0 s 0 r i t else i) 0 1
def on0 (s : Nat → Int32) (p o l : Int32) : Int32 := held0 (if 0 < s 175 then work0 s 1 p o l else p) 0 9
/-- whether p is shut at t, were beat and phase these -/
def shutG (s : Nat → Int32) (p : Nat) (t bt ph : Int32) : Int32 :=
  told0 s (rest0 t ph bt) (blinks0 (s (8 + 4 * p)) (s (9 + 4 * p)) t (rest0 t ph bt)) (jrem t 24)
def shut0 (s : Nat → Int32) (p : Nat) : Int32 := shutG s p (s 0) (s (10 + 4 * p)) (s (11 + 4 * p))
def shutN (s : Nat → Int32) : Nat → Int32
  | 0 => 0
  | n + 1 => shutN s n ||| (shut0 s n <<< (nI n &&& 31))
def shutAll (s : Nat → Int32) : Int32 := shutN s (nnat (s 4))
def Inv (s : Nat → Int32) : Prop :=
  (∃ n : Nat, n ≤ 6 ∧ s 4 = nI n ∧ (∀ p, p < n → (∃ k : Nat, k < 7 ∧ s (8 + 4 * p) = nI k) ∧ (∃ b : Nat, 0 < b ∧ b ≤ 12 ∧ s (10 + 4 * p) = nI b)) ∧
    ∃ m : Nat, m ≤ 6 ∧ s 5 = nI m ∧ ∀ d, d < m → (∃ w : Nat, w < n ∧ s (32 + 3 * d) = nI w) ∧ (∃ q : Nat, q ≤ 99 ∧ s (33 + 3 * d) = nI q) ∧ (∃ w : Nat, w < 64 ∧ s (34 + 3 * d) = nI w)) ∧
  (∃ n : Nat, n ≤ 60 ∧ s 2 = nI n) ∧ (∃ n : Nat, n ≤ 24 ∧ s 3 = nI n) ∧ textOk s 0 ∧ textOk s 1
def ovl (im : XI) (a1 a0 n : Nat) : XI := fun a k => if a = a1 ∧ k < n then im a0 k else im a k
theorem ovl_0 {im : XI} {a1 a0 : Nat} : ovl im a1 a0 0 = im := by funext a k; simp [ovl]
theorem ovl_s {im : XI} {a1 a0 i : Nat} (h : a0 ≠ a1) : xup (ovl im a1 a0 i) a1 i (ovl im a1 a0 i a0 i) = ovl im a1 a0 (i + 1) := by
  funext a k
  simp only [xup, ovl]
  by_cases ha : a = a1
  · subst ha
    by_cases hk : k = i
    · subst hk; simp [h]
    · by_cases h2 : k < i
      · simp [hk, h2, Nat.lt_succ_of_lt h2]
      · have : ¬ k < i + 1 := by omega
        simp [hk, h2, this]
  · simp [ha]
def many0 (x : Int32) : Nat → Int32
  | 0 => 0
  | n + 1 => many0 x n + ((x >>> (nI n &&& 31)) &&& 1)
/-- a doing gets on by so much, were so many shut -/
def onBy0 (s : Nat → Int32) (d : Nat) (shut : Int32) : Int32 :=
  on0 s (tries0 (s (8 + 4 * nnat (s (32 + 3 * d)))) (s (9 + 4 * nnat (s (32 + 3 * d)))) (s 5)) (many0 (shut &&& ((1 <<< (s (32 + 3 * d) &&& 31)) ^^^ (-1))) 6) (s (33 + 3 * d))
/-- behind a tick with so many shut: the doing's parts -/
def on1 (s : Nat → Int32) (d : Nat) (shut : Int32) : Int32 :=
  if s (33 + 3 * d) = 0 ∨ ¬ (s (34 + 3 * d) &&& (shut ^^^ (-1))) = 0 then s (33 + 3 * d) else held0 (s (33 + 3 * d) - onBy0 s d shut) 0 99
theorem bl_3n {kd m t r : Int32} (h : kd = 3) (c : 2 ≤ r) : 0 = blinks0 kd m t r := by
  subst h
  have c2 : ¬ r < 2 := Int32.not_lt.mpr c
  have e1 : ¬ (3 : Int32) = 2 := by decide
  unfold blinks0
  rw [if_neg e1, if_pos rfl, if_neg c2]
theorem wl_le (s : Nat → Int32) (b k : Nat) : wl s b k ≤ k := by
  induction k with
  | zero => exact Nat.le_refl 0
  | succ k ih =>
    unfold wl
    split
    · omega
    · split <;> omega
theorem upd_agree {f g : Nat → Int32} {i j : Nat} {v : Int32} (h : j ≠ i → f j = g j) : upd f i v j = upd g i v j := by
  by_cases hj : j = i
  · subst hj; rw [upd_at, upd_at]
  · rw [upd_ne hj, upd_ne hj, h hj]
theorem nI_lt0 {n : Nat} (hn : n < 2 ^ 31) : (0 < nI n) ↔ 0 < n := by
  rw [i_lt, nI_toInt hn]
  show (0 : Int) < n ↔ 0 < n
  omega
theorem nameC_lt (u j : Nat) : nameC u j = nI (nnat (nameC u j)) ∧ nnat (nameC u j) < 128 := by
  have h : ∀ i : Nat, nms i = nI (nnat (nms i)) ∧ nnat (nms i) < 128 := by
    intro i
    match i with
    | 0 => decide
    | 1 => decide
    | 2 => decide
    | 3 => decide
    | 4 => decide
    | n + 5 =>
      show (108 : Int32) = nI (nnat 108) ∧ nnat 108 < 128
      decide
  exact h _
theorem mg1 (k : Nat) : mgb 1 k := by simp [mgb]
theorem mg3 (k : Nat) : mgb 3 k := by simp [mgb]
theorem mg5 (k : Nat) : mgb 5 k := by simp [mgb]
theorem mg6 (k : Nat) : mgb 6 k := by simp [mgb]
theorem mg7 (k : Nat) : mgb 7 k := by simp [mgb]
theorem mg12 (k : Nat) : mgb 12 k := by simp [mgb]
theorem mg0 {k : Nat} (h : k = 5 ∨ k = 6 ∨ k = 7 ∨ k = 8 ∨ k = 14) : mgb 0 k := Or.inr (Or.inr (Or.inr (Or.inr (Or.inr (Or.inr ⟨rfl, h⟩)))))

-- ===== the class' voices, its errors =====
def trC (im : XI) : Nat → List Int32 → XI
  | _, [] => im
  | n, b :: l => trC (xup (xup im 35 n b) 34 1 (nI (n + 1))) (n + 1) l
theorem trC_o {im : XI} {n a k : Nat} {l : List Int32} (h : ¬ (a = 35 ∨ a = 34)) : (trC im n l) a k = im a k := by
  induction l generalizing im n with
  | nil => rfl
  | cons b l ih =>
    show (trC _ (n + 1) l) a k = _
    rw [ih, xup_o (fun e => h (Or.inr e)), xup_o (fun e => h (Or.inl e))]
theorem trC_app {im : XI} {n : Nat} {l l2 : List Int32} : trC (trC im n l) (n + l.length) l2 = trC im n (l ++ l2) := by
  induction l generalizing im n with
  | nil => rfl
  | cons b l ih =>
    show trC (trC _ (n + 1) l) (n + (l.length + 1)) l2 = trC _ (n + 1) (l ++ l2)
    rw [← ih, show n + 1 + l.length = n + (l.length + 1) by omega]
theorem trC_c {im : XI} {n : Nat} {l : List Int32} {v : Int32} : trC (xup im 33 1 v) n l = xup (trC im n l) 33 1 v := by
  induction l generalizing im n with
  | nil => rfl
  | cons b l ih =>
    show trC (xup (xup (xup im 33 1 v) 35 n b) 34 1 (nI (n + 1))) (n + 1) l = xup (trC _ (n + 1) l) 33 1 v
    rw [← ih]
    congr 1
    funext a k
    simp only [xup]
    by_cases h1 : a = 33 ∧ k = 1
    · rw [if_neg (by omega), if_neg (by omega), if_pos h1, if_pos h1]
    · rw [if_neg h1, if_neg h1]
theorem trC_len {im : XI} {n : Nat} {l : List Int32} (h : im 34 1 = nI n) : (trC im n l) 34 1 = nI (n + l.length) ∧ (∀ k, k < n → (trC im n l) 35 k = im 35 k) ∧ ∀ k, k < l.length → (trC im n l) 35 (n + k) = l.getD k 0 := by
  induction l generalizing im n with
  | nil => exact ⟨h, fun k hk => rfl, fun k hk => absurd hk (Nat.not_lt_zero k)⟩
  | cons b l ih =>
    have hl : (b :: l).length = l.length + 1 := rfl
    obtain ⟨a1, a2, a3⟩ := ih (im := xup (xup im 35 n b) 34 1 (nI (n + 1))) (n := n + 1) xup_at
    refine ⟨?_, ?_, ?_⟩
    · rw [hl]
      show (trC _ (n + 1) l) 34 1 = _
      rw [a1]
      congr 1
      omega
    · intro k hk
      show (trC _ (n + 1) l) 35 k = _
      rw [a2 k (by omega), xup_o (by decide), xup_ne (by omega)]
    · intro k hk
      show (trC _ (n + 1) l) 35 (n + k) = _
      cases k with
      | zero =>
        show (trC _ (n + 1) l) 35 n = _
        rw [a2 n (by omega), xup_o (by decide), xup_at]
        rfl
      | succ k =>
        rw [show n + (k + 1) = n + 1 + k by omega, a3 k (by omega)]
        rfl
def VC (im : XI) (o p : Nat) (m : Int32) (n : Nat) : Prop := im 33 2 = nI o ∧ im 33 3 = nI p ∧ im 33 4 = m ∧ im 34 1 = nI n
theorem VC.s {im : XI} {o p n : Nat} {m b : Int32} (h : VC im o p m n) : VC (xup (xup im 35 n b) 34 1 (nI (n + 1))) o p m (n + 1) := by
  obtain ⟨a1, a2, a3, a4⟩ := h
  refine ⟨?_, ?_, ?_, xup_at⟩
  · rw [xup_o (by decide), xup_o (by decide)]; exact a1
  · rw [xup_o (by decide), xup_o (by decide)]; exact a2
  · rw [xup_o (by decide), xup_o (by decide)]; exact a3
theorem VC.t {im : XI} {o p n : Nat} {m : Int32} {l : List Int32} (h : VC im o p m n) : VC (trC im n l) o p m (n + l.length) := by
  obtain ⟨a1, a2, a3, a4⟩ := h
  exact ⟨(trC_o (by decide)).trans a1, (trC_o (by decide)).trans a2, (trC_o (by decide)).trans a3, (trC_len a4).1⟩
theorem VC.p {im : XI} {o p n : Nat} {m v : Int32} (h : VC im o p m n) : VC (xup im 33 1 v) o p m n := by
  obtain ⟨a1, a2, a3, a4⟩ := h
  exact ⟨(xup_ne (by decide)).trans a1, (xup_ne (by decide)).trans a2, (xup_ne (by decide)).trans a3, (congrFun (xup_o (by decide)) 1).trans a4⟩
def erC (im : XI) (e : Nat) : XI := if e = 0 then im else xup im 37 e (im 37 e + 1)
/-- a public call of the class: its answer, the island, and nothing else -/
def Pc (im : XI) (r : R3) (x : Int32) (im' : XI) : Prop := x = r.2.1 ∧ RI 0 r.2.2 im' ∧ kK (erC im r.1) im'
theorem Pc.ok {im im' : XI} {s' : Nat → Int32} {x y : Int32} (hx : x = y) (hR : RI 0 s' im') (hk : kK im im') : Pc im (rO y s') x im' := ⟨hx, hR, hk⟩
theorem kK_er {im im2 : XI} {e : Nat} (hk : kK im im2) (he : 0 < e) : kK (erC im e) (xup im2 37 e (im2 37 e + 1)) := by
  unfold erC
  rw [if_neg (by omega)]
  intro a k hq
  have e1 : im2 37 e = im 37 e := hk 37 e (by omega)
  simp only [xup]
  by_cases c : a = 37 ∧ k = e
  · rw [if_pos c, if_pos c, e1]
  · rw [if_neg c, if_neg c]
    exact hk a k hq
theorem RI.er {s : Nat → Int32} {im : XI} {np nd e : Nat} {v : Int32} (hI : Iv s np nd) (h : RI 0 s im) : RI 0 s (xup im 37 e v) := h.ext hI (fun a _ _ _ _ => xup_o (by omega))
theorem Pc.er {im im2 : XI} {s : Nat → Int32} {np nd e : Nat} {x : Int32} (hI : Iv s np nd) (hx : x = -1000000000 - nI e) (hR : RI 0 s im2) (hk : kK im im2) (he : 0 < e) : Pc im (rE e s) x (xup im2 37 e (im2 37 e + 1)) := ⟨hx, hR.er hI, kK_er hk he⟩
def kV (im im' : XI) : Prop := ∀ a k, ¬ (1 ≤ a ∧ a ≤ 35) → im' a k = im a k
theorem kK.V {im im' : XI} (h : kK im im') : kV im im' := fun a k hk => h a k (fun g => hk (by omega))
def Pvc (im : XI) (r : R3) (l : List Int32) (x : Int32) (im' : XI) : Prop := x = r.2.1 ∧ RI 0 r.2.2 im' ∧ kV (erC im r.1) im' ∧ im' 34 1 = nI l.length ∧ ∀ k, k < l.length → im' 35 k = l.getD k 0
def opVoiceC (im : XI) (s : Nat → Int32) (v w x : Int32) (y : Int32) (im' : XI) : Prop :=
  if ¬ okVo s v w then Pc im (rE 1 s) y im' else Pvc im (voR s (nnat v) w x) (voL s (nnat v) w) y im'

-- ===== the class' reading =====
def PsC (s : Nat → Int32) (u a len : Nat) (im : XI) : Prop := im 28 3 = nI a ∧ im 28 2 = nI u ∧ im 29 1 = nI len ∧ TaR 0 s im
def kR (im im' : XI) : Prop := ∀ a k, ¬ ((a = 28 ∧ k = 3) ∨ (a = 29 ∧ k = 1) ∨ a = 30) → im' a k = im a k
theorem kR.rf {im : XI} : kR im im := fun _ _ _ => rfl
theorem kR.tr {a b c : XI} (h : kR a b) (h2 : kR b c) : kR a c := fun q k hq => (h2 q k hq).trans (h q k hq)
theorem kR.up {im im0 : XI} {a i : Nat} {v : Int32} (h : kR im0 im) (hg : (a = 28 ∧ i = 3) ∨ (a = 29 ∧ i = 1) ∨ a = 30) : kR im0 (xup im a i v) := by
  intro q k hq
  have : ¬ (q = a ∧ k = i) := fun e => hq (by rw [e.1, e.2]; exact hg)
  simp only [xup]
  rw [if_neg this]
  exact h q k hq
theorem kR.K {im im' : XI} (h : kR im im') : kK im im' := fun a k hk => h a k (fun g => hk (by omega))
theorem TaR.kR {s : Nat → Int32} {im im' : XI} (h : TaR 0 s im) (hk : kR im im') : TaR 0 s im' := by
  refine ⟨(hk 12 1 (by omega)).trans h.1, fun k hk' => (hk 13 k (by omega)).trans (h.2 k hk')⟩
def wrC (u : Nat) : (Nat → Int32) → Nat → List PStp → Nat → Int32
  | f, _, [] => f
  | f, n, x :: l => wrC u (upd f n (tok u x.1 x.2)) (n + 1) l
theorem wrC_app (u : Nat) (f : Nat → Int32) (n : Nat) (l k : List PStp) : wrC u f n (l ++ k) = wrC u (wrC u f n l) (n + l.length) k := by
  induction l generalizing f n with
  | nil => rfl
  | cons x l ih =>
    show wrC u _ (n + 1) (l ++ k) = wrC u (wrC u _ (n + 1) l) (n + (l.length + 1)) k
    rw [ih, show n + 1 + l.length = n + (l.length + 1) by omega]
theorem wrC_lo (u : Nat) (f : Nat → Int32) (n : Nat) (l : List PStp) (j : Nat) (h : j < n) : wrC u f n l j = f j := by
  induction l generalizing f n with
  | nil => rfl
  | cons x l ih =>
    show wrC u _ (n + 1) l j = _
    rw [ih _ _ (by omega), upd_ne (by omega)]
theorem wrC_at (u : Nat) (f : Nat → Int32) (n : Nat) (l : List PStp) (j : Nat) (h : j < l.length) : wrC u f n l (n + j) = tok u (l.getD j (0, 0)).1 (l.getD j (0, 0)).2 := by
  induction l generalizing f n j with
  | nil => exact absurd h (Nat.not_lt_zero j)
  | cons x l ih =>
    show wrC u _ (n + 1) l (n + j) = _
    cases j with
    | zero =>
      show wrC u _ (n + 1) l n = _
      rw [wrC_lo _ _ _ _ _ (by omega)]
      exact upd_at
    | succ j =>
      rw [show n + (j + 1) = n + 1 + j by omega, ih _ _ _ (Nat.lt_of_succ_lt_succ h), List.getD_cons_succ]
def RPc (s : Nat → Int32) (u len : Nat) (im : XI) (r : PRes) (x : Int32) (im' : XI) : Prop := kR im im' ∧ im' 28 3 = nI r.1 ∧ match r.2 with
  | none => x = 0 ∧ ∃ c : Nat, c ≤ 60 ∧ im' 29 1 = nI c
  | some l => x = 1 ∧ im' 29 1 = nI (len + l.length) ∧ im' 30 = wrC u (im 30) len l
def PCc (bo : Bool) (mt : XM) (s : Nat → Int32) (n u f m : Nat) : Prop := ∀ (op a len D : Nat) (im : XI) (r : PRes), op ≤ 5 → a ≤ n → len ≤ a → 6 * (5 - op) + (8 - m) ≤ D → PsC s u a len im → 12 * (n - a) + wgt m < f → prs (fun k => s (300 + k)) n u f m op a = some r → SpI mt D [.ref 28, .int (nI op)] (SC bo) im (RPc s u len im r)
theorem PsC.k {s : Nat → Int32} {u a len a' len' : Nat} {im im' : XI} (h : PsC s u a len im) (hk : kR im im') (h3 : im' 28 3 = nI a') (h1 : im' 29 1 = nI len') : PsC s u a' len' im' := ⟨h3, (hk 28 2 (by omega)).trans h.2.1, h1, h.2.2.2.kR hk⟩
theorem PsC.up {s : Nat → Int32} {u a len : Nat} {im : XI} (h : PsC s u a len im) : PsC s u (a + 1) len (xup im 28 3 (nI (a + 1))) := h.k (kR.rf.up (by omega)) xup_at ((congrFun (xup_o (by decide)) 1).trans h.2.2.1)
theorem xcode {bo : Bool} : (SC bo).1[29]? = some (.inl 6) ∧ (SC bo).2 29 0 = some 30 ∧ XA (SC bo) 30 60 := by
  cases bo <;> exact ⟨rfl, rfl, ⟨rfl, rfl⟩⟩
theorem xtape {bo : Bool} : (SC bo).1[12]? = some (.inl 6) ∧ (SC bo).2 12 0 = some 13 ∧ XA (SC bo) 13 60 := by
  cases bo <;> exact ⟨rfl, rfl, ⟨rfl, rfl⟩⟩
theorem xwait {bo : Bool} : (SC bo).1[14]? = some (.inl 6) ∧ (SC bo).2 14 0 = some 15 ∧ XA (SC bo) 15 24 := by
  cases bo <;> exact ⟨rfl, rfl, ⟨rfl, rfl⟩⟩
theorem nm_dg {u : Nat} {c : Int32} (hu : u < 2) (h : isDg c) : ¬ isNm u c := by
  intro g
  match u, hu with
  | 0, _ => rcases g with rfl | rfl | rfl <;> exact absurd h.2 (by decide)
  | 1, _ => rcases g with rfl | rfl | rfl <;> exact absurd h.2 (by decide)
def nmI (u : Nat) (c : Int32) : Int32 := if nameC u 0 = c then 1 else if nameC u 1 = c then 2 else if nameC u 2 = c then 3 else 0
theorem nmI_tok {u : Nat} {c : Int32} (h : isNm u c) : -(nmI u c) = tok u 1 c ∧ ¬ nmI u c ≤ 0 := by
  rw [tok_1 rfl]
  unfold nmI
  by_cases h0 : c = nameC u 0
  · rw [if_pos h0.symm, if_pos h0]; decide
  · rw [if_neg (fun e => h0 e.symm), if_neg h0]
    by_cases h1 : c = nameC u 1
    · rw [if_pos h1.symm, if_pos h1]; decide
    · rw [if_neg (fun e => h1 e.symm), if_neg h1]
      have h2 : c = nameC u 2 := (h.resolve_left h0).resolve_left h1
      rw [if_pos h2.symm]; decide
theorem nmI_0 {u : Nat} {c : Int32} (h : ¬ isNm u c) : nmI u c = 0 := by
  unfold nmI
  rw [if_neg (fun e => h (Or.inl e.symm)), if_neg (fun e => h (Or.inr (Or.inl e.symm))), if_neg (fun e => h (Or.inr (Or.inr e.symm)))]

-- ===== the island of the class and the row s =====
theorem div_m1 (x : Int32) : x / -1 = -x := by
  rw [i_eq, Int32.toInt_div, show (-1 : Int32).toInt = -1 from rfl, Int.tdiv_neg, Int.tdiv_one, Int32.toInt_neg]
theorem jrem_m1 (x : Int32) : jrem x (-1) = 0 := by
  unfold jrem
  rw [div_m1, Int32.neg_mul, Int32.mul_neg, Int32.mul_one, Int32.neg_neg, Int32.sub_self]
def tok (u : Nat) (w v : Int32) : Int32 := if w = 0 then v else if w = 1 then (if v = nameC u 0 then -1 else if v = nameC u 1 then -2 else -3) else if w = 2 then -33 else -v
def LwR (o : Nat) (s : Nat → Int32) (u : Nat) (im : XI) : Prop := im (4 + 4 * u + o) 0 = nI u ∧ im (4 + 4 * u + o) 3 = b2i (0 < s (50 + 125 * u)) ∧ ∃ c : Nat, c ≤ 60 ∧ im (5 + 4 * u + o) 1 = nI c ∧ (0 < s (50 + 125 * u) → s (50 + 125 * u) = nI c ∧ ∀ k, k < c → im (6 + 4 * u + o) k = tok u (s (50 + 125 * u + 1 + 2 * k)) (s (50 + 125 * u + 2 + 2 * k)))
def PeR (o : Nat) (s : Nat → Int32) (im : XI) : Prop := ∀ p, p < nnat (s 4) → im (16 + p + o) 0 = s (8 + 4 * p) ∧ im (16 + p + o) 1 = s (9 + 4 * p) ∧ im (16 + p + o) 2 = s (10 + 4 * p) ∧ im (16 + p + o) 3 = s (11 + 4 * p)
def DoR (o : Nat) (s : Nat → Int32) (im : XI) : Prop := ∀ d, d < nnat (s 5) → im (22 + d + o) 0 = s (32 + 3 * d) ∧ im (22 + d + o) 1 = s (33 + 3 * d) ∧ im (22 + d + o) 2 = s (34 + 3 * d)
def TaR (o : Nat) (s : Nat → Int32) (im : XI) : Prop := im (12 + o) 1 = s 2 ∧ ∀ k, k < nnat (s 2) → im (13 + o) k = s (300 + k)
def WaR (o : Nat) (s : Nat → Int32) (im : XI) : Prop := im (14 + o) 1 = s 3 ∧ ∀ k, k < nnat (s 3) → im (15 + o) k = s (360 + k)
def CnR (o : Nat) (s : Nat → Int32) (im : XI) : Prop := im (1 + o) 6 = s 4 ∧ im (1 + o) 7 = s 5 ∧ im (1 + o) 8 = s 0 ∧ im (1 + o) 9 = s 1
def RI (o : Nat) (s : Nat → Int32) (im : XI) : Prop := CnR o s im ∧ PeR o s im ∧ DoR o s im ∧ TaR o s im ∧ WaR o s im ∧ LwR o s 0 im ∧ LwR o s 1 im
/-- what the class may change in thought: the laws' stacks alone -/
def kC (im im' : XI) : Prop := ∀ a k, ¬ (a = 7 ∨ a = 11) → im' a k = im a k
theorem kC.rf {im : XI} : kC im im := fun _ _ _ => rfl
theorem kC.tr {a b c : XI} (h : kC a b) (h2 : kC b c) : kC a c := fun q k hq => (h2 q k hq).trans (h q k hq)
theorem kC.up {im im0 : XI} {a i : Nat} {v : Int32} (h : kC im0 im) (hg : a = 7 ∨ a = 11) : kC im0 (xup im a i v) := by
  intro q k hq
  rw [xup_o (fun e => hq (by rw [e]; exact hg))]
  exact h q k hq
theorem kC.e {im im' : XI} (h : kC im im') (a : Nat) (ha : ¬ (a = 7 ∨ a = 11)) : im' a = im a := by
  funext k
  exact h a k ha
theorem LwR.kC {s : Nat → Int32} {u : Nat} {im im' : XI} (hu : u < 2) (h : LwR 0 s u im) (hk : kC im im') : LwR 0 s u im' := by
  obtain ⟨h0, h3, c, hc, h1, h2⟩ := h
  refine ⟨by rw [hk.e _ (by omega)]; exact h0, by rw [hk.e _ (by omega)]; exact h3, c, hc, by rw [hk.e _ (by omega)]; exact h1, fun hg => ⟨(h2 hg).1, fun k hkc => ?_⟩⟩
  rw [hk.e _ (by omega)]
  exact (h2 hg).2 k hkc
theorem RI.kC {s : Nat → Int32} {im im' : XI} {np nd : Nat} (hI : Iv s np nd) (h : RI 0 s im) (hk : kC im im') : RI 0 s im' := by
  obtain ⟨⟨a1, a2, a3, a4⟩, hp, hd, ⟨t1, t2⟩, ⟨w1, w2⟩, l0, l1⟩ := h
  have hnp : nnat (s 4) ≤ 6 := by rw [hI.1.2.1, nnat_nI (by have := hI.1.1; omega)]; exact hI.1.1
  have hnd : nnat (s 5) ≤ 6 := by rw [hI.2.1.2.1, nnat_nI (by have := hI.2.1.1; omega)]; exact hI.2.1.1
  refine ⟨⟨by rw [hk.e _ (by omega)]; exact a1, by rw [hk.e _ (by omega)]; exact a2, by rw [hk.e _ (by omega)]; exact a3, by rw [hk.e _ (by omega)]; exact a4⟩, fun p hp' => by rw [hk.e _ (by omega)]; exact hp p hp', fun d hd' => by rw [hk.e _ (by omega)]; exact hd d hd', ⟨by rw [hk.e _ (by omega)]; exact t1, fun k hk' => by rw [hk.e _ (by omega)]; exact t2 k hk'⟩, ⟨by rw [hk.e _ (by omega)]; exact w1, fun k hk' => by rw [hk.e _ (by omega)]; exact w2 k hk'⟩, l0.kC (by omega) hk, l1.kC (by omega) hk⟩
theorem RI.np {s : Nat → Int32} {im : XI} {np nd : Nat} (hI : Iv s np nd) (h : RI 0 s im) : im 1 6 = nI np := h.1.1.trans hI.1.2.1
theorem RI.nd {s : Nat → Int32} {im : XI} {np nd : Nat} (hI : Iv s np nd) (h : RI 0 s im) : im 1 7 = nI nd := h.1.2.1.trans hI.2.1.2.1
theorem RI.per {s : Nat → Int32} {im : XI} {np nd p : Nat} (hI : Iv s np nd) (h : RI 0 s im) (hp : p < np) : im (16 + p) 0 = s (8 + 4 * p) ∧ im (16 + p) 1 = s (9 + 4 * p) ∧ im (16 + p) 2 = s (10 + 4 * p) ∧ im (16 + p) 3 = s (11 + 4 * p) :=
  h.2.1 p (by rw [hI.1.2.1, nnat_nI (by have := hI.1.1; omega)]; exact hp)
theorem RI.doi {s : Nat → Int32} {im : XI} {np nd d : Nat} (hI : Iv s np nd) (h : RI 0 s im) (hd : d < nd) : im (22 + d) 0 = s (32 + 3 * d) ∧ im (22 + d) 1 = s (33 + 3 * d) ∧ im (22 + d) 2 = s (34 + 3 * d) :=
  h.2.2.1 d (by rw [hI.2.1.2.1, nnat_nI (by have := hI.2.1.1; omega)]; exact hd)
theorem xlaw {bo : Bool} {u : Nat} (hu : u < 2) : (SC bo).1[4 + 4 * u]? = some (.inl 3) ∧ (SC bo).2 (4 + 4 * u) 1 = some (5 + 4 * u) ∧ (SC bo).2 (4 + 4 * u) 2 = some (7 + 4 * u) ∧ (SC bo).1[5 + 4 * u]? = some (.inl 6) ∧ (SC bo).2 (5 + 4 * u) 0 = some (6 + 4 * u) ∧ XA (SC bo) (6 + 4 * u) 60 ∧ XA (SC bo) (7 + 4 * u) 60 := by
  match u, hu with
  | 0, _ => cases bo <;> exact ⟨rfl, rfl, rfl, rfl, rfl, ⟨rfl, rfl⟩, ⟨rfl, rfl⟩⟩
  | 1, _ => cases bo <;> exact ⟨rfl, rfl, rfl, rfl, rfl, ⟨rfl, rfl⟩, ⟨rfl, rfl⟩⟩

-- ===== the two worlds side by side, between calls =====
theorem okSh_4 {z : Int32} (h : okSh z) : nnat z < 4 := by
  obtain ⟨i, hi, e⟩ := (in_c (n := 3) rfl (by decide)).mp h
  rw [e, nnat_nI (by omega)]; omega
theorem Iv.cg {s s' : Nat → Int32} {np nd : Nat} (hI : Iv s np nd) (he : ∀ k, k < 384 → s' k = s k) : Iv s' np nd :=
  Iv_rows hI (fun k _ _ hk => he k (by omega)) (by rw [he 2 (by omega)]; exact hI.2.2.1) (by rw [he 3 (by omega)]; exact hI.2.2.2.1)
theorem LwR.cg {o u : Nat} {s s' : Nat → Int32} {im : XI} (hu : u < 2) (h : LwR o s u im) (he : ∀ k, k < 384 → s' k = s k) : LwR o s' u im := by
  obtain ⟨h0, h3, c, hc, h1, h2⟩ := h
  refine ⟨h0, by rw [he _ (by omega)]; exact h3, c, hc, h1, fun hg => ?_⟩
  rw [he _ (by omega)] at hg
  refine ⟨by rw [he _ (by omega)]; exact (h2 hg).1, fun k hk => ?_⟩
  rw [he _ (by omega), he _ (by omega)]
  exact (h2 hg).2 k hk
theorem RI.cg {o : Nat} {s s' : Nat → Int32} {im : XI} {np nd : Nat} (hI : Iv s np nd) (h : RI o s im) (he : ∀ k, k < 384 → s' k = s k) : RI o s' im := by
  obtain ⟨⟨a1, a2, a3, a4⟩, hp, hd, ⟨t1, t2⟩, ⟨w1, w2⟩, l0, l1⟩ := h
  have hnp : nnat (s 4) ≤ 6 := by rw [nnp hI]; exact hI.1.1
  have hnd : nnat (s 5) ≤ 6 := by rw [nnd hI]; exact hI.2.1.1
  obtain ⟨n2, hn2, e2⟩ := hI.2.2.1
  obtain ⟨n3, hn3, e3⟩ := hI.2.2.2.1
  have g2 : nnat (s 2) ≤ 60 := by rw [e2, nnat_nI (by omega)]; exact hn2
  have g3 : nnat (s 3) ≤ 24 := by rw [e3, nnat_nI (by omega)]; exact hn3
  refine ⟨⟨by rw [he _ (by omega)]; exact a1, by rw [he _ (by omega)]; exact a2, by rw [he _ (by omega)]; exact a3, by rw [he _ (by omega)]; exact a4⟩, ?_, ?_, ⟨by rw [he _ (by omega)]; exact t1, ?_⟩, ⟨by rw [he _ (by omega)]; exact w1, ?_⟩, l0.cg (by omega) he, l1.cg (by omega) he⟩
  · intro p hp'
    rw [he 4 (by omega)] at hp'
    rw [he _ (by omega), he _ (by omega), he _ (by omega), he _ (by omega)]
    exact hp p hp'
  · intro d hd'
    rw [he 5 (by omega)] at hd'
    rw [he _ (by omega), he _ (by omega), he _ (by omega)]
    exact hd d hd'
  · intro k hk
    rw [he 2 (by omega)] at hk
    rw [he _ (by omega)]
    exact t2 k hk
  · intro k hk
    rw [he 3 (by omega)] at hk
    rw [he _ (by omega)]
    exact w2 k hk
def RLe (ic im : XI) : Prop := ∀ k, 1 ≤ k → k ≤ 6 → im 4 k = ic 37 k
def RLt (ic im : XI) : Prop := ∃ n : Nat, n ≤ 30 ∧ im 0 12 = nI n ∧ ic 34 1 = nI n ∧ ∀ k, k < n → im 8 k = ic 35 k
def RLs (ic im : XI) : Prop := SI (im 9) (im 10) ∧ SR (im 9) (im 10) (im 11) ic
def RLk (bo : Bool) (N : Nat) (ic im : XI) : Prop := (∃ K : Nat, K ≤ N ∧ im 0 3 = nI K ∧ ic 0 7 = nI K ∧ (bo = true → 0 < K) ∧ (bo = false → K = 0)) ∧ (bo = true → ∃ kp : Nat → Int32, (∀ k, k < 384 → im 2 k = kp k) ∧ IvX kp ∧ RI 49 kp ic)
/-- what binds the class's cells and the reference's, between calls (N: how many calls there were at most) -/
def REL (bo : Bool) (N : Nat) (ic im : XI) : Prop := (IvX (im 1) ∧ RI 0 (im 1) ic) ∧ RLe ic im ∧ RLt ic im ∧ RLs ic im ∧ RLk bo N ic im
theorem RLe_er {ic im ic' im' : XI} {e : Nat} (h : RLe ic im) (hc : ∀ k, ic' 37 k = erC ic e 37 k) (hm : ∀ k, im' 4 k = er im e 4 k) : RLe ic' im' := by
  intro k h1 h2
  rw [hc, hm]
  unfold er erC
  by_cases he : e = 0
  · rw [if_pos he, if_pos he]; exact h k h1 h2
  · rw [if_neg he, if_neg he]
    by_cases hk : k = e
    · subst hk
      rw [xup_at, xup_at, h k h1 h2]
    · rw [xup_ne hk, xup_ne hk]; exact h k h1 h2
theorem RLt.cg {ic im ic' im' : XI} (h : RLt ic im) (h1 : im' 0 12 = im 0 12) (h2 : ic' 34 1 = ic 34 1) (h3 : ∀ k, im' 8 k = im 8 k) (h4 : ∀ k, ic' 35 k = ic 35 k) : RLt ic' im' := by
  obtain ⟨n, hn, a, b, c⟩ := h
  exact ⟨n, hn, h1.trans a, h2.trans b, fun k hk => by rw [h3, h4]; exact c k hk⟩
theorem RLs.cg {ic im ic' im' : XI} (h : RLs ic im) (h9 : im' 9 = im 9) (h10 : im' 10 = im 10) (h11 : im' 11 = im 11) (hc : ∀ a, 38 ≤ a → a ≤ 49 → ic' a = ic a) : RLs ic' im' := by
  refine ⟨by rw [h9, h10]; exact h.1, ?_⟩
  rw [h9, h10, h11]
  exact h.2.ext hc
theorem RLk.cg {bo : Bool} {N : Nat} {ic im ic' im' : XI} (h : RLk bo N ic im) (h1 : im' 0 3 = im 0 3) (h2 : ic' 0 7 = ic 0 7) (h3 : ∀ k, im' 2 k = im 2 k) (h4 : ∀ a, 50 ≤ a → a < 77 → ic' a = ic a) : RLk bo (N + 1) ic' im' := by
  obtain ⟨⟨K, a, b, c, d, e⟩, g⟩ := h
  refine ⟨⟨K, by omega, h1.trans b, h2.trans c, d, e⟩, fun hb => ?_⟩
  obtain ⟨kp, g1, ⟨np, nd, g2⟩, g3⟩ := g hb
  exact ⟨kp, fun k hk => (h3 k).trans (g1 k hk), ⟨np, nd, g2⟩, RI49 g2 g3 h4⟩
theorem erC_o {ic : XI} {e a : Nat} (h : a ≠ 37) : erC ic e a = ic a := by
  unfold erC; split
  · rfl
  · exact xup_o h
theorem er_o {im : XI} {e a : Nat} (h : a ≠ 4) : er im e a = im a := by
  unfold er; split
  · rfl
  · exact xup_o h
theorem kK_a {im im' : XI} (h : kK im im') {a : Nat} (ha : ¬ (1 ≤ a ∧ a ≤ 32)) : im' a = im a := by
  funext k; exact h a k ha
theorem kV_a {im im' : XI} (h : kV im im') {a : Nat} (ha : ¬ (1 ≤ a ∧ a ≤ 35)) : im' a = im a := by
  funext k; exact h a k ha
theorem mkL_a {im im' : XI} (h : mkL im im') {a : Nat} (ha : a = 2 ∨ a = 4 ∨ a = 8 ∨ a = 9 ∨ a = 10 ∨ a = 11) : im' a = im a := by
  funext k
  exact h a k (by simp only [mgL]; omega)
/-- a call of both that comes to the same: equal answers, and the worlds stay bound -/
theorem rel_P {bo : Bool} {N : Nat} {ic im ic' im' : XI} {r : R3} {x y : Int32} (h : REL bo N ic im) (hc : Pc ic r x ic') (hm : Pm im r y im') (hI : IvX r.2.2) : x = y ∧ REL bo (N + 1) ic' im' := by
  obtain ⟨-, h2, h3, h4, h5⟩ := h
  obtain ⟨c1, c2, c3⟩ := hc
  obtain ⟨m1, m2, m3⟩ := hm
  refine ⟨c1.trans m1.symm, ⟨by rw [m2]; exact hI, by rw [m2]; exact c2⟩, RLe_er h2 (e := r.1) (fun k => c3 37 k (by omega)) (fun k => m3 4 k (by simp [mgL])), ?_, ?_, ?_⟩
  · refine h3.cg ?_ ?_ ?_ ?_
    · rw [m3 0 12 (by simp [mgL]), er_o (by decide)]
    · rw [c3 34 1 (by omega), erC_o (by decide)]
    · intro k; rw [m3 8 k (by simp [mgL]), er_o (by decide)]
    · intro k; rw [c3 35 k (by omega), erC_o (by decide)]
  · refine h4.cg ?_ ?_ ?_ ?_
    · rw [mkL_a m3 (by omega), er_o (by decide)]
    · rw [mkL_a m3 (by omega), er_o (by decide)]
    · rw [mkL_a m3 (by omega), er_o (by decide)]
    · intro a g1 g2; rw [kK_a c3 (by omega), erC_o (by omega)]
  · refine h5.cg ?_ ?_ ?_ ?_
    · rw [m3 0 3 (by simp [mgL]), er_o (by decide)]
    · rw [c3 0 7 (by omega), erC_o (by decide)]
    · intro k; rw [m3 2 k (by simp [mgL]), er_o (by decide)]
    · intro a g1 g2; rw [kK_a c3 (by omega), erC_o (by omega)]
theorem voR_row (s : Nat → Int32) (p : Nat) (w x : Int32) : (voR s p w x).2.2 = s := by
  unfold voR; split <;> rfl
theorem rel_voice {bo : Bool} {N : Nat} {ic im ic' im' : XI} {v w x0 x y : Int32} (h : REL bo N ic im) (hc : opVoiceC ic (im 1) v w x0 x ic') (hm : opVoice im (im 1) v w x0 y im') : x = y ∧ REL bo (N + 1) ic' im' := by
  unfold opVoiceC at hc
  unfold opVoice at hm
  by_cases c : ¬ okVo (im 1) v w
  · rw [if_pos c] at hc hm
    exact rel_P h hc hm h.1.1
  · rw [if_neg c] at hc hm
    obtain ⟨h1, h2, h3, h4, h5⟩ := h
    obtain ⟨c1, c2, c3, c4, c5⟩ := hc
    obtain ⟨m1, m2, m3, m4, m5⟩ := hm
    rw [voR_row] at c2 m2
    have hl := voL_len (im 1) (nnat v) w
    refine ⟨c1.trans m1.symm, ⟨by rw [m2]; exact h1.1, by rw [m2]; exact c2⟩, RLe_er h2 (e := (voR (im 1) (nnat v) w x0).1) (fun k => c3 37 k (by omega)) (fun k => m3 4 k (by simp [mgT, mgL])), ⟨(voL (im 1) (nnat v) w).length, by omega, m4, c4, fun k hk => (m5 k hk).trans (c5 k hk).symm⟩, ?_, ?_⟩
    · refine h4.cg ?_ ?_ ?_ ?_
      · funext k; rw [m3 9 k (by simp [mgT, mgL]), er_o (by decide)]
      · funext k; rw [m3 10 k (by simp [mgT, mgL]), er_o (by decide)]
      · funext k; rw [m3 11 k (by simp [mgT, mgL]), er_o (by decide)]
      · intro a g1 g2; rw [kV_a c3 (by omega), erC_o (by omega)]
    · refine h5.cg ?_ ?_ ?_ ?_
      · rw [m3 0 3 (by simp [mgT, mgL]), er_o (by decide)]
      · rw [c3 0 7 (by omega), erC_o (by decide)]
      · intro k; rw [m3 2 k (by simp [mgT, mgL]), er_o (by decide)]
      · intro a g1 g2; rw [kV_a c3 (by omega), erC_o (by omega)]
theorem rel_Sh {bo : Bool} {N : Nat} {ic im ic' im' : XI} {a x y : Int32} {bs ss nu : Nat → Int32} (h : REL bo N ic im) (hc : Pshc ic (im 1) a bs ss nu x ic') (hm : Psh im (im 1) a bs ss nu y im') (hS : SI bs ss) : x = y ∧ REL bo (N + 1) ic' im' := by
  obtain ⟨h1, h2, h3, h4, h5⟩ := h
  obtain ⟨c1, c2, c3, c4⟩ := hc
  obtain ⟨m1, m2, m9, m10, m11, m3⟩ := hm
  refine ⟨c1.trans m1.symm, ⟨by rw [m2]; exact h1.1, by rw [m2]; exact c2⟩, RLe_er h2 (e := 0) (fun k => c4 37 k (by omega)) (fun k => m3 4 k (by simp [mgL])), ?_, ⟨by rw [m9, m10]; exact hS, by rw [m9, m10, m11]; exact c3⟩, ?_⟩
  · exact h3.cg (m3 0 12 (by simp [mgL])) (c4 34 1 (by omega)) (fun k => m3 8 k (by simp [mgL])) (fun k => c4 35 k (by omega))
  · exact h5.cg (m3 0 3 (by simp [mgL])) (c4 0 7 (by omega)) (fun k => m3 2 k (by simp [mgL])) (fun b g1 g2 => by funext k; exact c4 b k (by omega))
theorem rel_sheet {bo : Bool} {N : Nat} {ic im ic' im' : XI} {z t n x y : Int32} (h : REL bo N ic im) (hc : opSheetC ic (im 1) (im 9) (im 10) (im 11) z t n x ic') (hm : opSheet im (im 1) z t n y im') : x = y ∧ REL bo (N + 1) ic' im' := by
  unfold opSheetC at hc
  unfold opSheet at hm
  by_cases c : ¬ (okSh z ∧ okBits t)
  · rw [if_pos c] at hc hm; exact rel_P h hc hm h.1.1
  rw [if_neg c] at hc hm
  by_cases c2 : ¬ t = 0 ∧ n < 0
  · rw [if_pos c2] at hc hm; exact rel_P h hc hm h.1.1
  rw [if_neg c2] at hc hm
  by_cases c3 : ¬ t = 0 ∧ 24 < n
  · rw [if_pos c3] at hc hm; exact rel_P h hc hm h.1.1
  rw [if_neg c3] at hc hm
  refine rel_Sh h hc hm ?_
  intro q hq
  obtain ⟨a1, a2⟩ := h.2.2.2.1.1 q hq
  have c' := Classical.not_not.mp c
  by_cases e : q = nnat z
  · subst e
    rw [upd_at, upd_at]
    refine ⟨c'.2, ?_⟩
    by_cases ht : t = 0
    · rw [if_pos ht]; exact ⟨0, by omega, rfl⟩
    · rw [if_neg ht]
      have hn : ¬ n < 0 := fun g => c2 ⟨ht, g⟩
      have hn2 : ¬ 24 < n := fun g => c3 ⟨ht, g⟩
      obtain ⟨m, hm0, rfl⟩ := nI_of hn
      refine ⟨m, ?_, rfl⟩
      rw [i_lt, nI_toInt hm0] at hn2
      have : (24 : Int32).toInt = 24 := rfl
      omega
  · rw [upd_ne e, upd_ne e]; exact ⟨a1, a2⟩
theorem rel_put {bo : Bool} {N : Nat} {ic im ic' im' : XI} {z i v x y : Int32} (h : REL bo N ic im) (hc : opPutC ic (im 1) (im 9) (im 10) (im 11) z i v x ic') (hm : opPut im (im 1) z i v y im') : x = y ∧ REL bo (N + 1) ic' im' := by
  unfold opPutC at hc
  unfold opPut at hm
  by_cases c : ¬ okSh z
  · rw [if_pos c] at hc hm; exact rel_P h hc hm h.1.1
  rw [if_neg c] at hc hm
  by_cases c2 : im 9 (nnat z) = 0
  · rw [if_pos c2] at hc hm; exact rel_P h hc hm h.1.1
  rw [if_neg c2] at hc hm
  by_cases c3 : ¬ (0 ≤ i ∧ i ≤ im 10 (nnat z) - 1)
  · rw [if_pos c3] at hc hm; exact rel_P h hc hm h.1.1
  rw [if_neg c3] at hc hm
  exact rel_Sh h hc hm h.2.2.2.1.1
theorem rel_move {bo : Bool} {N : Nat} {ic im ic' im' : XI} {z i y0 j n x y : Int32} (h : REL bo N ic im) (hc : opMoveC ic (im 1) (im 9) (im 10) (im 11) z i y0 j n x ic') (hm : opMove im (im 1) z i y0 j n y im') : x = y ∧ REL bo (N + 1) ic' im' := by
  unfold opMoveC at hc
  unfold opMove at hm
  by_cases c : ¬ (okSh z ∧ okSh y0)
  · rw [if_pos c] at hc hm; exact rel_P h hc hm h.1.1
  rw [if_neg c] at hc hm
  unfold opMoveNC at hc
  unfold opMoveN at hm
  by_cases c2 : im 9 (nnat z) = 0 ∨ im 9 (nnat y0) = 0
  · rw [if_pos c2] at hc hm; exact rel_P h hc hm h.1.1
  rw [if_neg c2] at hc hm
  by_cases c3 : ¬ im 9 (nnat z) = im 9 (nnat y0)
  · rw [if_pos c3] at hc hm; exact rel_P h hc hm h.1.1
  rw [if_neg c3] at hc hm
  by_cases c4 : ¬ okMv (im 10) (nnat z) i (nnat y0) j n
  · rw [if_pos c4] at hc hm; exact rel_P h hc hm h.1.1
  rw [if_neg c4] at hc hm
  exact rel_Sh h hc hm h.2.2.2.1.1
theorem rel_image {bo : Bool} {N : Nat} {ic im ic' im' : XI} {x y : Int32} (h : REL bo N ic im) (hx : x = ic 0 7 + 1) (hR : RI 0 (im 1) ic') (hR2 : RI 49 (im 1) ic') (h7 : ic' 0 7 = ic 0 7 + 1) (hk : ∀ a k, a < 50 → ¬ (a = 0 ∧ k = 7) → ic' a k = ic a k) (hm : opImage im (im 1) y im') : x = y ∧ REL true (N + 1) ic' im' := by
  obtain ⟨h1, h2, h3, h4, ⟨⟨K, k1, k2, k3, k4, k5⟩, -⟩⟩ := h
  obtain ⟨m1, rfl⟩ := hm
  have o1 : ∀ a, a ≠ 0 → a ≠ 2 → xup (ovl im 2 1 384) 0 3 (im 0 3 + 1) a = im a := by
    intro a g1 g2
    rw [xup_o g1]
    funext k
    simp [ovl, g2]
  have o2 : xup (ovl im 2 1 384) 0 3 (im 0 3 + 1) 0 12 = im 0 12 := by
    rw [xup_ne (by decide)]; simp [ovl]
  refine ⟨by rw [hx, m1, k2, k3], ⟨by rw [o1 1 (by decide) (by decide)]; exact h1.1, by rw [o1 1 (by decide) (by decide)]; exact hR⟩, ?_, ?_, ?_, ⟨⟨K + 1, by omega, ?_, ?_, fun _ => by omega, fun hb => by cases hb⟩, fun _ => ⟨im 1, ?_, h1.1, hR2⟩⟩⟩
  · exact RLe_er h2 (e := 0) (fun k => hk 37 k (by omega) (by omega)) (fun k => by rw [o1 4 (by decide) (by decide)]; rfl)
  · exact h3.cg o2 (hk 34 1 (by omega) (by omega)) (fun k => by rw [o1 8 (by decide) (by decide)]) (fun k => hk 35 k (by omega) (by omega))
  · exact h4.cg (o1 9 (by decide) (by decide)) (o1 10 (by decide) (by decide)) (o1 11 (by decide) (by decide)) (fun a g1 g2 => by funext k; exact hk a k (by omega) (by omega))
  · rw [xup_at, k2, nI_1]
  · rw [h7, k3, nI_1]
  · intro k hk2
    rw [xup_o (by decide)]
    simp [ovl, hk2]
theorem rel_restore_N {N : Nat} {ic im ic' im' : XI} {x y : Int32} (h : REL false N ic im) (hc : Pc ic (rE 2 (im 1)) x ic') (hm : opRestore im (im 1) y im') : x = y ∧ REL false (N + 1) ic' im' := by
  obtain ⟨K, k1, k2, k3, k4, k5⟩ := h.2.2.2.2.1
  unfold opRestore at hm
  rw [if_pos (by rw [k2, k5 rfl]; rfl)] at hm
  exact rel_P h hc hm h.1.1
theorem rel_restore_R {N : Nat} {ic im ic' im' kp : XI} {x y : Int32} (hN : N < 2 ^ 30) (h : REL true N ic im) {q : Nat → Int32} (hq : ∀ k, k < 384 → im 2 k = q k) (hI : IvX q) (hc : Pc ic (rO (q 0) q) x ic') (hm : opRestore im (im 1) y im') : x = y ∧ REL true (N + 1) ic' im' := by
  obtain ⟨h1, h2, h3, h4, h5⟩ := h
  obtain ⟨K, k1, k2, k3, k4, k5⟩ := h5.1
  unfold opRestore at hm
  have hne : ¬ im 0 3 = 0 := by
    intro e
    rw [k2] at e
    have e2 := congrArg Int32.toInt e
    rw [nI_toInt (by omega)] at e2
    have e3 := k4 rfl
    have e4 : (0 : Int32).toInt = 0 := rfl
    omega
  rw [if_neg hne] at hm
  obtain ⟨m1, rfl⟩ := hm
  obtain ⟨c1, c2, c3⟩ := hc
  have o1 : ∀ a, a ≠ 1 → ovl im 1 2 384 a = im a := by
    intro a g1
    funext k
    simp [ovl, g1]
  have c3 : kK ic ic' := c3
  obtain ⟨np, nd, hI⟩ := hI
  have e1 : ∀ k, k < 384 → ovl im 1 2 384 1 k = q k := by
    intro k hk
    rw [← hq k hk]
    simp [ovl, hk]
  refine ⟨by rw [c1, m1, hq 0 (by omega)]; rfl, ⟨⟨np, nd, hI.cg e1⟩, RI.cg hI c2 e1⟩, ?_, ?_, ?_, ?_⟩
  · exact RLe_er h2 (e := 0) (fun k => c3 37 k (by omega)) (fun k => by rw [o1 4 (by decide)]; rfl)
  · exact h3.cg (by rw [o1 0 (by decide)]) (c3 34 1 (by omega)) (fun k => by rw [o1 8 (by decide)]) (fun k => c3 35 k (by omega))
  · exact h4.cg (o1 9 (by decide)) (o1 10 (by decide)) (o1 11 (by decide)) (fun a g1 g2 => kK_a c3 (by omega))
  · exact h5.cg (by rw [o1 0 (by decide)]) (c3 0 7 (by omega)) (fun k => by rw [o1 2 (by decide)]) (fun a g1 g2 => kK_a c3 (by omega))
theorem told_e {s e e' : Nat → Int32} {k : Int32} (h : ∀ k, 1 ≤ k → k ≤ 6 → e k = e' k) : opTold s e k = opTold s e' k := by
  unfold opTold
  by_cases c : ¬ (1 ≤ k ∧ k ≤ 6)
  · rw [if_pos c, if_pos c]
  · rw [if_neg c, if_neg c]
    have c' := Classical.not_not.mp c
    have h0 : ¬ k < 0 := by
      rw [i_lt]
      have := c'.1
      rw [i_le] at this
      have e1 : (1 : Int32).toInt = 1 := rfl
      have e0 : (0 : Int32).toInt = 0 := rfl
      omega
    obtain ⟨m, hm, rfl⟩ := nI_of h0
    rw [nnat_nI hm]
    have a1 := c'.1
    have a2 := c'.2
    rw [i_le, nI_toInt hm] at a1 a2
    have e1 : (1 : Int32).toInt = 1 := rfl
    have e6 : (6 : Int32).toInt = 6 := rfl
    rw [h m (by omega) (by omega)]
theorem body_e {n : Nat} {t t' s : Nat → Int32} {i : Int32} (hn : n ≤ 30) (h : ∀ k, k < n → t k = t' k) : opBody (nI n) t s i = opBody (nI n) t' s i := by
  unfold opBody
  by_cases c : ¬ (0 ≤ i ∧ i ≤ nI n - 1)
  · rw [if_pos c, if_pos c]
  · rw [if_neg c, if_neg c]
    have c' := Classical.not_not.mp c
    have h0 : ¬ i < 0 := by
      rw [i_lt]
      have := c'.1
      rw [i_le] at this
      omega
    obtain ⟨m, hm, rfl⟩ := nI_of h0
    rw [nnat_nI hm]
    have a2 := c'.2
    rw [i_le, nI_toInt hm, nI_m1 n (by omega)] at a2
    rw [h m (by omega)]

-- ===== arrays =====
theorem xin_of {i n : Nat} (h : i < n) (hn : Nat.blt n 100000 = true) : vp_in (nI i) n ∧ (nI i).toNatClampNeg = i := by
  have hn : n < 100000 := Nat.le_of_ble_eq_true hn
  exact ⟨vp_in_nI h (by omega), nI_clamp (by omega)⟩
/-- an int array -/
def XA (S : XS) (a n : Nat) : Prop := S.1[a]? = some (.inr (.inl n)) ∧ Nat.blt n 100000 = true
theorem V.iald {M : XM} {d : Nat} {b : Nat × Nat} {pc : Nat} {L : List (Option Value)} {st : List Value} {S : XS} {im : XI} {Q : Option Value → XS → XI → Prop} {a n i : Nat} {x : Int32} (ha : XA S a n) (hx : x = nI i) (hi : i < n) (hd : decode M.2.1 pc = .ok (.iaload, 1)) (k : V M d b (pc + 1) L (.int (im a i) :: st) S im Q) : V M d b pc L (.int x :: .ref a :: st) S im Q := by
  intro p l e R s m args below meth c D E A ads H locs cells slots n0 ls C hR hS hn hb1 hb2 hl
  subst hx
  obtain ⟨h1, h2⟩ := xin_of hi ha.2
  have kk := k p l e R s m args below meth c D E A ads H locs cells slots n0 ls C hR hS hn hb1 hb2 hl
  refine va_iald (D := D) C.1.1 C.1.2.1 C.2.2.1.1 hR.1 a 0 (xw_get ha.1) (by rfl) h1 hd ?_
  rw [h2]
  exact kk
theorem V.alen {M : XM} {d : Nat} {b : Nat × Nat} {pc : Nat} {L : List (Option Value)} {st : List Value} {S : XS} {im : XI} {Q : Option Value → XS → XI → Prop} {a n : Nat} (ha : XA S a n) (hd : decode M.2.1 pc = .ok (.arraylength, 1)) (k : V M d b (pc + 1) L (.int (nI n) :: st) S im Q) : V M d b pc L (.ref a :: st) S im Q := by
  intro p l e R s m args below meth c D E A ads H locs cells slots n0 ls C hR hS hn hb1 hb2 hl
  exact va_alen (D := D) C.1.1 C.1.2.1 C.2.2.1.1 hR.1 a 0 (xw_get ha.1) (ty := .int) (by rfl) rfl hd (k p l e R s m args below meth c D E A ads H locs cells slots n0 ls C hR hS hn hb1 hb2 hl)
theorem V.iast {M : XM} {d : Nat} {b : Nat × Nat} {pc : Nat} {L : List (Option Value)} {st : List Value} {S : XS} {im : XI} {Q : Option Value → XS → XI → Prop} {a n i : Nat} {x y : Int32} (ha : XA S a n) (hx : x = nI i) (hi : i < n) (hd : decode M.2.1 pc = .ok (.iastore, 1)) (k : V M d b (pc + 1) L st S (xup im a i y) Q) : V M d b pc L (.int y :: .int x :: .ref a :: st) S im Q := by
  intro p l e R s m args below meth c D E A ads H locs cells slots n0 ls C hR hS hn hb1 hb2 hl
  subst hx
  obtain ⟨h1, h2⟩ := xin_of hi ha.2
  obtain ⟨arr, hcell⟩ : ∃ z, z = (vp_cell (E 0) (n, .inl (im a))) := ⟨_, rfl⟩
  have hset : (xw E ads S im).set a (ads a, .inl (E 0, (n, .inl (upd (im a) i y)))) = xw E ads S (xup im a i y) :=
    xw_set ha.1 rfl (fun q hq => ⟨by funext k'; simp [xup, hq], rfl⟩) (by
      refine congrArg (fun f => Sum.inl (E 0, (n, Sum.inl f))) ?_
      funext k'
      simp [xup, upd])
  have hlt : (nI i).toNatClampNeg < n := by rw [h2]; exact hi
  refine W.iast C.1.1 C.1.2.1 (hR.1 a _ (xw_get ha.1)) ((C.2.2.1.1.2 0 _ rfl).1 n (fun j => .int (im a j))) (fun q => by cases q) (by show ¬ (nI i < 0 ∨ (arrV _ _ _).slots.size ≤ _); rw [arrV_size]; exact h1) rfl rfl hd fun H1 e1 z oq => ?_
  have hP1 := hR.1.set (e := .inl (E 0, (n, .inl (upd (im a) i y)))) hR.2.1 (xw_get ha.1) (by
    show H1[ads a]? = some (vp_cell _ _)
    rw [e1]
    show some (Cell.setSlot (vp_cell _ _) _ _) = _
    rw [vp_cell_i, vp_cell_i, arrV_store, h2]
    congr 2
    funext q
    by_cases hq : q = i
    · subst hq
      simp [updV, upd]
    · simp [updV, upd, hq]) oq
  have hD1 := hR.2.1.set (e := .inl (E 0, (n, .inl (upd (im a) i y)))) (xw_get ha.1)
  rw [hset] at hP1 hD1
  exact k p l e R s m args below meth c D E A ads H1 _ cells slots n0 ls C ⟨hP1, hD1, fun i' hi' => by rw [z]; exact hR.2.2 i' hi'⟩ (hS.put z oq (hR.2.1.2 a _ (xw_get ha.1))) (by rw [z]; exact hn) hb1 hb2 hl
/-- an array of references: to objects of kind t -/
def XG (S : XS) (a t n : Nat) : Prop := S.1[a]? = some (.inr (.inr (t, n))) ∧ Nat.blt n 100000 = true ∧ Nat.blt t 3 = true
theorem V.aald {M : XM} {d : Nat} {b : Nat × Nat} {pc : Nat} {L : List (Option Value)} {st : List Value} {S : XS} {im : XI} {Q : Option Value → XS → XI → Prop} {a a' t n i : Nat} {x : Int32} (ha : XG S a t n) (hx : x = nI i) (hi : i < n) (hr : S.2 a i = some a') (hd : decode M.2.1 pc = .ok (.aaload, 1)) (k : V M d b (pc + 1) L (.ref a' :: st) S im Q) : V M d b pc L (.int x :: .ref a :: st) S im Q := by
  intro p l e R s m args below meth c D E A ads H locs cells slots n0 ls C hR hS hn hb1 hb2 hl
  subst hx
  obtain ⟨h1, h2⟩ := xin_of hi ha.2.1
  have kk := k p l e R s m args below meth c D E A ads H locs cells slots n0 ls C hR hS hn hb1 hb2 hl
  refine va_aldq (D := D) C.1.1 C.1.2.1 C.2.2.1.1 hR.1 a (t + 1) (xw_get ha.1) (xtys_get (Nat.le_of_ble_eq_true ha.2.2)) h1 hd ?_
  rw [h2]
  simp only [hr, Option.map_some, va_rf]
  exact kk
theorem V.aast {M : XM} {d : Nat} {b : Nat × Nat} {pc : Nat} {L : List (Option Value)} {st : List Value} {S : XS} {im : XI} {Q : Option Value → XS → XI → Prop} {a a' t n i ci N : Nat} {T : u_T} {x : Int32} (ha : XG S a t n) (hx : x = nI i) (hi : i < n) (hsh : S.1[a']? = some (.inl ci)) (hc : vwCl[ci]? = some (xel t, T, N)) (hd : decode M.2.1 pc = .ok (.aastore, 1)) (k : V M d b (pc + 1) L st (S.1, xur S.2 a i (some a')) im Q) : V M d b pc L (.ref a' :: .int x :: .ref a :: st) S im Q := by
  intro p l e R s m args below meth c D E A ads H locs cells slots n0 ls C hR hS hn hb1 hb2 hl
  subst hx
  obtain ⟨h1, h2⟩ := xin_of hi ha.2.1
  have hset : (xw E ads S im).set a (ads a, .inl (E (t + 1), (n, .inr (.inr (.inr (.inr (va_up (fun j => (S.2 a j).map ads) i (some (ads a'))))))))) = xw E ads (S.1, xur S.2 a i (some a')) im :=
    xw_set (S' := (S.1, xur S.2 a i (some a'))) (im' := im) ha.1 rfl (fun q hq => ⟨rfl, by funext k'; simp [xur, hq]⟩) (by
      refine congrArg (fun f => Sum.inl (E (t + 1), (n, Sum.inr (Sum.inr (Sum.inr (Sum.inr f)))))) ?_
      funext k'
      by_cases hk : k' = i
      · simp [xur, va_up, hk]
      · simp [xur, va_up, hk])
  have ht := xtys_get (E := E) (Nat.le_of_ble_eq_true ha.2.2)
  have hlt : (nI i).toNatClampNeg < n := by rw [h2]; exact hi
  obtain ⟨r', hr', cellV, g1, g2, g3, -⟩ := hR.1 a' _ (xw_get hsh)
  have hcls := (C.2.2.1.1.1 ci _ hc).2
  obtain ⟨kA, comp, k1, k2, k3, -⟩ := (C.2.2.1.1.2 _ _ ht).2
  have hcomp : comp = D.1 ci := Option.some.inj (k3.symm.trans hcls.1)
  subst hcomp
  obtain ⟨kC, hkC, -⟩ := hcls.2
  refine W.aast C.1.1 C.1.2.1 (hR.1 a _ (xw_get ha.1)) (fun q h => by cases h) (fun h => by cases h) k1 k2 rfl hkC ⟨fun q => h1 (Or.inl q), by show _ < (arrV _ _ _).slots.size; rw [arrV_size]; exact hlt⟩ g1 (fun q h => by rw [g3] at h; cases h) (by rw [g2]; exact hkC) (by rw [g2]; exact va_assign hcls) rfl rfl hd fun H1 e1 z oq => ?_
  have hP1 := hR.1.set (e := .inl (E (t + 1), (n, .inr (.inr (.inr (.inr (va_up (fun j => (S.2 a j).map ads) i (some (ads a'))))))))) hR.2.1 (xw_get ha.1) (by
    show H1[ads a]? = some (vp_cell _ _)
    rw [e1]
    show some (Cell.setSlot (vp_cell _ _) _ _) = _
    rw [vp_cell_q, vp_cell_q, arrV_store, h2]
    congr 2
    funext q
    by_cases hq : q = i
    · subst hq
      simp [updV, va_up, va_rf, conc]
    · simp [updV, va_up, hq]) oq
  have hD1 := hR.2.1.set (e := .inl (E (t + 1), (n, .inr (.inr (.inr (.inr (va_up (fun j => (S.2 a j).map ads) i (some (ads a'))))))))) (xw_get ha.1)
  rw [hset] at hP1 hD1
  exact k p l e R s m args below meth c D E A ads H1 _ cells slots n0 ls C ⟨hP1, hD1, fun i' hi' => by rw [z]; exact hR.2.2 i' hi'⟩ (hS.put z oq (hR.2.1.2 a _ (xw_get ha.1))) (by rw [z]; exact hn) hb1 hb2 hl
/-- System.arraycopy between rows of ints -/
theorem V.copy {M : XM} {d : Nat} {b : Nat × Nat} {pc : Nat} {L : List (Option Value)} {st : List Value} {S : XS} {im : XI} {Q : Option Value → XS → XI → Prop} {idx a0 a1 n0' n1' sp dp m' : Nat} {x y z : Int32} (hL : L.length = M.2.2.1) (hlk : Cond.methodLink M.1.cls idx arraycopyName ∈ xgood) (hnat : Cond.native arraycopyName ∈ xgood) (hstat : Cond.static arraycopyName ∈ xgood) (hini : Cond.initialized "java/lang/System" ∈ xgood) (ha0 : XA S a0 n0') (ha1 : XA S a1 n1') (hx : x = nI sp) (hy : y = nI dp) (hz : z = nI m') (h4 : sp + m' ≤ n0') (h5 : dp + m' ≤ n1') (hst : st = [])
    (hd : decode M.2.1 pc = .ok (.invokestatic idx, 3)) (k : V M (d + 1) b (pc + 3) L st S (xcp im a0 sp a1 dp m') Q) : V M (d + 1) b pc L (.int z :: .int y :: .ref a1 :: .int x :: .ref a0 :: st) S im Q := by
  intro p l e R s m args below meth c D E A ads H locs cells slots n0 ls C hR hS hn hb1 hb2 hl
  subst hx; subst hy; subst hz; subst hst
  have b0 : n0' < 100000 := Nat.le_of_ble_eq_true ha0.2
  have b1' : n1' < 100000 := Nat.le_of_ble_eq_true ha1.2
  have hset : (xw E ads S im).set a1 (ads a1, .inl (E 0, (n1', .inl (va_cpy (im a0) (im a1) sp dp m')))) = xw E ads S (xcp im a0 sp a1 dp m') :=
    xw_set ha1.1 rfl (fun q hq => ⟨by funext k'; simp [xcp, hq], rfl⟩) (by
      refine congrArg (fun f => Sum.inl (E 0, (n1', Sum.inl f))) ?_
      funext k'
      simp [xcp, va_cpy])
  have hw : ∀ w, w ∈ xgood → w.before args s = true := fun w h => C.1.2.2.2.2 w (List.mem_cons_of_mem _ h)
  have cl : ∀ {j : Nat}, j < 100000 → (nI j).toNatClampNeg = j := fun h => nI_clamp (by omega)
  have hc0 : H[ads a0]? = some (vp_cell (E 0) (n0', .inl (im a0))) := hR.1 a0 _ (xw_get ha0.1)
  have hc1 : H[ads a1]? = some (vp_cell (E 0) (n1', .inl (im a1))) := hR.1 a1 _ (xw_get ha1.1)
  obtain ⟨-, k0, hk0, cm0, hkk0⟩ := (C.2.2.1.1.2 0 _ rfl).1 n0' (fun j => .int (im a0 j))
  obtain ⟨-, k1, hk1, cm1, hkk1⟩ := (C.2.2.1.1.2 0 _ rfl).1 n1' (fun j => .int (im a1 j))
  have p1 : ¬ nI sp < 0 := nI_pos (by omega)
  have p2 : ¬ nI dp < 0 := nI_pos (by omega)
  have p3 : ¬ nI m' < 0 := nI_pos (by omega)
  intro T hT X
  obtain ⟨vm', X', step⟩ := X.arraycopy C.1.1 C.1.2.2.2.1 (hw _ hlk) (hw _ hnat) (hw _ hstat) (hw _ hini) (src := ads a0) (dst := ads a1) (cs := vp_cell (E 0) (n0', .inl (im a0))) (cd := vp_cell (E 0) (n1', .inl (im a1))) (srcPos := nI sp) (destPos := nI dp) (n := nI m') (by rw [hT]; exact hc0) (by rw [hT]; exact hc1)
    (fun _ h => by cases h) (fun _ h => by cases h) (fun h => by cases h) (fun h => by cases h) hk0 hk1 hkk0 hkk1 (by rfl) p1 p2 p3
    (by rw [nI_toInt (by omega), nI_toInt (by omega)]; show ¬ _ > ((arrV (E 0) n0' (fun j => .int (im a0 j))).slots.size : Int); rw [arrV_size]; omega)
    (by rw [nI_toInt (by omega), nI_toInt (by omega)]; show ¬ _ > ((arrV (E 0) n1' (fun j => .int (im a1 j))).slots.size : Int); rw [arrV_size]; omega)
    (fun vm₁ _ i hi => by
      rw [cl (by omega)] at hi ⊢
      have e9 : (vp_cell (E 0) (n0', .inl (im a0))).slots.getD (sp + i) .null = .int (im a0 (sp + i)) := by
        show (arrV (E 0) n0' (fun j => .int (im a0 j))).slots.getD _ _ = _
        rw [Array.getD_eq_getD_getElem?, arrV_read _ _ (by omega)]
        rfl
      refine ⟨?_, ?_⟩
      · rw [e9]; rfl
      · rw [e9]; exact trivial)
    (g := F0 m pc ls ((Value.int (nI m') :: .int (nI dp) :: .ref a1 :: .int (nI sp) :: .ref a0 :: []).map (conc ads))) rfl (by rw [C.1.2.2.1, ← hL]; exact hl.1) (rest := []) rfl (by rw [C.1.2.1]; exact hd) (by rw [C.2.2.2.2.1]; omega) (by rw [C.2.2.2.2.2]; exact Nat.le_trans (m := 64) (Nat.le_of_ble_eq_true rfl) (by omega))
  have e1 : copied (vp_cell (E 0) (n0', .inl (im a0))) (vp_cell (E 0) (n1', .inl (im a1))) (nI sp) (nI dp) (nI m') = vp_cell (E 0) (n1', .inl (va_cpy (im a0) (im a1) sp dp m')) := by
    have e2 : copied (vp_cell (E 0) (n0', .inl (im a0))) (vp_cell (E 0) (n1', .inl (im a1))) (nI sp) (nI dp) (nI m') = vp_cell (E 0) (n1', .inl (va_cpy (im a0) (im a1) (nI sp).toNatClampNeg (nI dp).toNatClampNeg (nI m').toNatClampNeg)) := va_copied (fun z => Value.int z) (E 0) (E 0) (im a0) (im a1) (by rw [cl (by omega), cl (by omega)]; exact h4)
    rw [cl (j := sp) (by omega), cl (j := dp) (by omega), cl (j := m') (by omega)] at e2
    exact e2
  rw [e1] at X' step
  have hlt : ads a1 < H.size := (Array.getElem?_eq_some_iff.mp hc1).1
  have hheap : ((T.setVm vm').setCell (ads a1) (vp_cell (E 0) (n1', .inl (va_cpy (im a0) (im a1) sp dp m')))).heap = H.setIfInBounds (ads a1) (vp_cell (E 0) (n1', .inl (va_cpy (im a0) (im a1) sp dp m'))) := by rw [← hT]; rfl
  have oq : ∀ q : Nat, q ≠ ads a1 → (H.setIfInBounds (ads a1) (vp_cell (E 0) (n1', .inl (va_cpy (im a0) (im a1) sp dp m'))))[q]? = H[q]? := fun q hq => by simp [Array.getElem?_setIfInBounds, Ne.symm hq]
  have hP1 := hR.1.set (e := .inl (E 0, (n1', .inl (va_cpy (im a0) (im a1) sp dp m')))) hR.2.1 (xw_get ha1.1) (show (H.setIfInBounds (ads a1) _)[ads a1]? = some _ by simp [Array.getElem?_setIfInBounds, hlt]) oq
  have hD1 := hR.2.1.set (e := .inl (E 0, (n1', .inl (va_cpy (im a0) (im a1) sp dp m')))) (xw_get ha1.1)
  rw [hset] at hP1 hD1
  have aA : A (ads a1) := hR.2.1.2 a1 _ (xw_get ha1.1)
  obtain ⟨t, a9, b9⟩ := k p l e R s m args below meth c D E A ads _ _ cells slots n0 ls C ⟨hP1, hD1, fun i' hi' => by rw [Array.size_setIfInBounds]; exact hR.2.2 i' hi'⟩ ⟨by rw [Array.size_setIfInBounds]; exact hS.1, fun q g1 g2 => by
      rw [oq q (fun e => g2 (by rw [e]; exact aA))]
      exact hS.2.1 q g1 g2, fun q hq => by
      rcases List.mem_append.mp hq with h | h
      · exact hS.2.2 q h
      · obtain ⟨z, -, hz⟩ := List.mem_map.mp h
        rw [← hz]
        exact aA⟩ (by rw [Array.size_setIfInBounds]; exact hn) hb1 hb2 hl _ hheap X'
  exact ⟨t, step t a9, b9⟩
-- ===== the static tables =====
theorem V.kabove {M : XM} {d : Nat} {b : Nat × Nat} {pc : Nat} {L : List (Option Value)} {st : List Value} {S : XS} {im : XI} {Q : Option Value → XS → XI → Prop} {idx : Nat} (hw : (Cond.fieldLink M.1.cls idx RX9 "KIND_ABOVE" "[I") ∈ xgood) (hd : decode M.2.1 pc = .ok (.getstatic idx, 3)) (k : V M d b (pc + 3) L (.ref xKA :: st) S im Q) : V M d b pc L st S im Q := by
  intro p l e R s m args below meth c D E A ads H locs cells slots n0 ls C hR hS hn hb1 hb2 hl
  exact va_gets C.1.1 C.1.2.1 C.2.2.1.2.2.1 hS C.1.2.2.2.1 (C.1.2.2.2.2 _ (List.mem_cons_of_mem _ hw)) (fun _ h => h) hd (k p l e R s m args below meth c D E A ads H locs cells slots n0 ls C hR hS hn hb1 hb2 hl)
theorem V.names {M : XM} {d : Nat} {b : Nat × Nat} {pc : Nat} {L : List (Option Value)} {st : List Value} {S : XS} {im : XI} {Q : Option Value → XS → XI → Prop} {idx : Nat} {host : String} (hw : (Cond.fieldLinkNest M.1.cls idx RX9 "NAMES" "[C" host) ∈ xnest) (hd : decode M.2.1 pc = .ok (.getstatic idx, 3)) (k : V M d b (pc + 3) L (.ref xNA :: st) S im Q) : V M d b pc L st S im Q := by
  intro p l e R s m args below meth c D E A ads H locs cells slots n0 ls C hR hS hn hb1 hb2 hl
  exact va_getsN C.1.1 C.1.2.1 C.2.2.1.2.2.2.2.1 hS C.1.2.2.2.1 (va_Nw.use rfl (C.2.2.1.2.1.1 _ hw)) (fun _ h => h) hd (k p l e R s m args below meth c D E A ads H locs cells slots n0 ls C hR hS hn hb1 hb2 hl)
theorem V.kald {M : XM} {d : Nat} {b : Nat × Nat} {pc : Nat} {L : List (Option Value)} {st : List Value} {S : XS} {im : XI} {Q : Option Value → XS → XI → Prop} {i : Nat} {x : Int32} (hx : x = nI i) (hi : i < 7) (hd : decode M.2.1 pc = .ok (.iaload, 1)) (k : V M d b (pc + 1) L (.int (kab i) :: st) S im Q) : V M d b pc L (.int x :: .ref xKA :: st) S im Q := by
  intro p l e R s m args below meth c D E A ads H locs cells slots n0 ls C hR hS hn hb1 hb2 hl
  subst hx
  obtain ⟨h1, h2⟩ := xin_of hi (by rfl)
  exact va_ti C.1.1 C.1.2.1 C.2.2.1.2.2.2.1 hS h1 (by rw [h2]; rfl) hd (k p l e R s m args below meth c D E A ads H locs cells slots n0 ls C hR hS hn hb1 hb2 hl)
theorem V.nald {M : XM} {d : Nat} {b : Nat × Nat} {pc : Nat} {L : List (Option Value)} {st : List Value} {S : XS} {im : XI} {Q : Option Value → XS → XI → Prop} {i : Nat} {x : Int32} (hx : x = nI i) (hi : i < 6) (hd : decode M.2.1 pc = .ok (.caload, 1)) (k : V M d b (pc + 1) L (.int (nms i) :: st) S im Q) : V M d b pc L (.int x :: .ref xNA :: st) S im Q := by
  intro p l e R s m args below meth c D E A ads H locs cells slots n0 ls C hR hS hn hb1 hb2 hl
  subst hx
  obtain ⟨h1, h2⟩ := xin_of hi (by rfl)
  exact va_tc C.1.1 C.1.2.1 C.2.2.1.2.2.2.2.2 hS h1 (by rw [h2]; rfl) hd (k p l e R s m args below meth c D E A ads H locs cells slots n0 ls C hR hS hn hb1 hb2 hl)
theorem V.nlen {M : XM} {d : Nat} {b : Nat × Nat} {pc : Nat} {L : List (Option Value)} {st : List Value} {S : XS} {im : XI} {Q : Option Value → XS → XI → Prop} (hd : decode M.2.1 pc = .ok (.arraylength, 1)) (k : V M d b (pc + 1) L (.int 6 :: st) S im Q) : V M d b pc L (.ref xNA :: st) S im Q := by
  intro p l e R s m args below meth c D E A ads H locs cells slots n0 ls C hR hS hn hb1 hb2 hl
  exact va_tlen C.1.1 C.1.2.1 C.2.2.1.2.2.2.2.2 hS (by rfl) hd (k p l e R s m args below meth c D E A ads H locs cells slots n0 ls C hR hS hn hb1 hb2 hl)
-- ===== returns =====
theorem V.done {M : XM} {d : Nat} {b : Nat × Nat} {pc : Nat} {L : List (Option Value)} {st : List Value} {S : XS} {im : XI} {Q : Option Value → XS → XI → Prop} {v : Option Value} (hq : Q v S im) {D : va_G} {E : Nat → ClassId} {A : Nat → Prop} {ads : Nat → Nat} {H : Heap} {locs : List Loc} {s : State} {args : Array Value} {n0 : Nat} (hR : XR D E ads A b S im H) (hS : va_S A s.heap H locs) (hn : H.size + n0 = s.heap.size + S.1.length) : ∀ t : State, t.heap = H → s.WarmedH t.vm → XQ D E A ads n0 Q args s (.returned (v.map (conc ads))) t := by
  intro t ht _
  subst ht
  exact ⟨⟨v, S, im, rfl, hq, hR.1, hR.2.1, hn⟩, hS.F rfl⟩
theorem V.iret {M : XM} {d : Nat} {b : Nat × Nat} {pc : Nat} {L : List (Option Value)} {S : XS} {im : XI} {Q : Option Value → XS → XI → Prop} {x : Int32} (hr : M.2.2.2 = some .int) (hd : decode M.2.1 pc = .ok (.ireturn, 1)) (hq : Q (some (.int x)) S im) : V M d b pc L [.int x] S im Q := by
  intro p l e R s m args below meth c D E A ads H locs cells slots n0 ls C hR hS hn hb1 hb2 hl
  refine W.widen (k := R.cells) (n := R.slots) (by omega) (by omega) ?_
  exact W.iret (v := x) C.1.1 C.1.2.1 (C.2.1.1.trans hr) (V.done (M := M) (d := d) (pc := pc) (L := L) (st := []) (v := some (.int x)) hq hR hS hn) hS.2.2 hd C.2.1.2.1
theorem V.zret {M : XM} {d : Nat} {b : Nat × Nat} {pc : Nat} {L : List (Option Value)} {S : XS} {im : XI} {Q : Option Value → XS → XI → Prop} {x : Int32} (hr : M.2.2.2 = some .boolean) (hz : x = 0 ∨ x = 1) (hd : decode M.2.1 pc = .ok (.ireturn, 1)) (hq : Q (some (.int x)) S im) : V M d b pc L [.int x] S im Q := by
  intro p l e R s m args below meth c D E A ads H locs cells slots n0 ls C hR hS hn hb1 hb2 hl
  refine W.widen (k := R.cells) (n := R.slots) (by omega) (by omega) ?_
  exact W.zret (v := x) C.1.1 C.1.2.1 (C.2.1.1.trans hr) (by rcases hz with rfl | rfl <;> rfl) (V.done (M := M) (d := d) (pc := pc) (L := L) (st := []) (v := some (.int x)) hq hR hS hn) hS.2.2 hd C.2.1.2.1
theorem V.aret {M : XM} {d : Nat} {b : Nat × Nat} {pc : Nat} {L : List (Option Value)} {S : XS} {im : XI} {Q : Option Value → XS → XI → Prop} {a : Nat} {rt : FieldType} (hr : M.2.2.2 = some rt) (hrt : (∃ n, rt = .object n) ∨ ∃ t, rt = .array t) (hd : decode M.2.1 pc = .ok (.areturn, 1)) (hq : Q (some (.ref a)) S im) : V M d b pc L [.ref a] S im Q := by
  intro p l e R s m args below meth c D E A ads H locs cells slots n0 ls C hR hS hn hb1 hb2 hl
  refine W.widen (k := R.cells) (n := R.slots) (by omega) (by omega) ?_
  exact W.aret (v := .ref (ads a)) C.1.1 C.1.2.1 (C.2.1.1.trans hr) hrt (Or.inr ⟨_, rfl⟩) (V.done (M := M) (d := d) (pc := pc) (L := L) (st := []) (v := some (.ref a)) hq hR hS hn) hS.2.2 hd C.2.1.2.1
theorem V.vret {M : XM} {d : Nat} {b : Nat × Nat} {pc : Nat} {L : List (Option Value)} {S : XS} {im : XI} {Q : Option Value → XS → XI → Prop} (hr : M.2.2.2 = none) (hd : decode M.2.1 pc = .ok (.return_, 1)) (hq : Q none S im) : V M d b pc L [] S im Q := by
  intro p l e R s m args below meth c D E A ads H locs cells slots n0 ls C hR hS hn hb1 hb2 hl
  refine W.widen (k := R.cells) (n := R.slots) (by omega) (by omega) ?_
  exact W.vret C.1.1 C.1.2.1 (C.2.1.1.trans hr) (V.done (M := M) (d := d) (pc := pc) (L := L) (st := []) (v := none) hq hR hS hn) hS.2.2 hd C.2.1.2.1
-- ===== calls =====
def XV (M : XM) (n : Nat) : Prop := Cond.code M.1 M.2.1 M.2.2.1 M.2.2.2 ∈ xgood ∧ Cond.initialized M.1.cls ∈ xgood ∧ (M.1.cls ≠ "java/lang/invoke/MethodHandle" ∧ M.1.cls ≠ "java/lang/invoke/VarHandle" ∧ (parseMethodDescriptor M.1.desc).map (fun d => d.parameters.length) = some n) ∧ Nat.ble M.2.2.1 40 = true
def XLk (own : String) (idx : Nat) (M2 : XM) : Prop := Cond.methodLink own idx M2.1 ∈ xgood ∨ ∃ host, Cond.methodLinkNest own idx M2.1 host ∈ xnest
theorem XP.blind {D : va_G} {E : Nat → ClassId} {A : Nat → Prop} {ads : Nat → Nat} {sz : Nat} {b : Nat × Nat} {S : XS} {im : XI} {vs : List Value} : FrameBlind (XP D E A ads sz b S im vs) := by
  intro a U g mk q
  obtain ⟨q0, q1, qK, qN, qT, qR⟩ := q
  exact ⟨q0, q1, va_K.moved (u := U) (U := U.calling g mk a) (Vm.Alike.refl U.vm) qK, XN.same (s := U) (U := U.calling g mk a) rfl qN, XT.go qT (U := U.calling g mk a) (Vm.Alike.refl U.vm) (fun _ _ _ => rfl), qR⟩
theorem XP.start {M : XM} {d : Nat} {p : Program} {R : Room} {s : State} {m : MethodId} {args : Array Value} {meth : Method} {c : Code} {D : va_G} {E : Nat → ClassId} {A : Nat → Prop} {ads : Nat → Nat} {b : Nat × Nat} {S : XS} {im : XI} {H : Heap} {locs : List Loc} {vs : List Value} (C : XC M d p R s m args meth c D E A ads) (hR : XR D E ads A b S im H) (hS : va_S A s.heap H locs) :
    ∀ U : State, U.heap = H → s.WarmedH U.vm → XP D E A ads H.size b S im vs (vs.map (conc ads)).toArray U := by
  intro U hU hW
  subst hU
  exact ⟨rfl, rfl, va_K.moved hW.alike C.2.2.1.1, XN.warm hW C.2.2.1.2.1, XT.go C.2.2.1.2.2 hW.alike (fun a h1 h2 => hS.2.1 a h1 h2), hR⟩
theorem xcall_go {p : Program} {l : Launch} {e : Env} {R : Room} {s : State} {m : MethodId} {args : Array Value} {below : List Frame} {meth : Method} {c : Code} {H : Heap} {locs : List Loc} {cells slots mc ms : Nat} {Q : State → Prop} {pc : Nat} {ls : Array Slot} {rest st0 : List Value} {a : Array Value} {A : Nat → Prop} {D : va_G} {E : Nat → ClassId} {ads : Nat → Nat} {n1 : Nat} {P : Option Value → XS → XI → Prop}
    (hr : va_Run p l e R s m args below meth c H locs cells slots mc ms (F0 m pc ls st0) rest (XQ D E A ads n1 P a) A) (hS : va_S A s.heap H locs)
    (kk : ∀ (r : Option Value) (S' : XS) (im' : XI) (H1 : Heap) (locs1 : List Loc), P r S' im' → va_P D vwCl (xw E ads S' im') H1 → va_D A (xw E ads S' im') → H1.size + n1 = H.size + S'.1.length → va_S A s.heap H1 locs1 → W p l e R s m args below meth c H1 locs1 (cells + mc) (slots + ms) Q (F0 m (pc + 3) ls ((r.map (conc ads)).toList ++ rest))) :
    W p l e R s m args below meth c H locs cells slots Q (F0 m pc ls st0) := by
  intro T hT X
  obtain ⟨v, st₀, t, T', Lc, h0, X', hL, e1, e2, ⟨⟨r, S', im', hv, hp, hPP, hDD, hz⟩, hz2, hk⟩, st⟩ := hr T hT X
  cases hv
  rw [h0] at hz hz2 hk
  obtain ⟨t2, a1, b1⟩ := kk r S' im' T'.heap (locs ++ Lc) hp (by rw [e1]; exact hPP) hDD (by rw [e1]; exact hz)
    ⟨Nat.le_trans hS.1 (by rw [e1]; exact hz2), fun q h1 h2 => by rw [e1, hk q (Nat.lt_of_lt_of_le h1 hS.1) h2]; exact hS.2.1 q h1 h2, fun q hq => by
      rcases List.mem_append.mp hq with h | h
      · exact hS.2.2 q h
      · exact hL q h⟩ T' rfl X'
  exact ⟨t2, st t2 a1, b1⟩
theorem xroom {d : Nat} {b1 : Nat × Nat} {R : Room} {mx : Nat} (h1 : R.frames = d + 1) (h2 : R.locals = 64 * (d + 1)) (h3 : Nat.ble mx 40 = true) : (xrm d b1).frames + 1 ≤ R.frames ∧ 8 + (mx + 11) + (xrm d b1).locals ≤ R.locals := by
  have := Nat.le_of_ble_eq_true h3
  simp only [xrm, h1, h2]
  omega
/-- behind a call: the same method goes on -/
theorem V.behind {M : XM} {d : Nat} {b b1 b2 : Nat × Nat} {L : List (Option Value)} {st : List Value} {S : XS} {im : XI} {Q : Option Value → XS → XI → Prop} {pc : Nat} {P : Option Value → XS → XI → Prop} (hbud : b1.1 + b2.1 ≤ b.1 ∧ b1.2 + b2.2 ≤ b.2) (hP : ∀ r S' im', P r S' im' → S'.1.length = S.1.length + b1.1)
    (k : ∀ r S' im', P r S' im' → V M d b2 (pc + 3) L (r.toList ++ st) S' im' Q)
    {p : Program} {l : Launch} {e : Env} {R : Room} {s : State} {m : MethodId} {args : Array Value} {below : List Frame} {meth : Method} {c : Code} {D : va_G} {E : Nat → ClassId} {A : Nat → Prop} {ads : Nat → Nat} {H : Heap} {locs : List Loc} {cells slots n0 : Nat} {ls : Array Slot} {st0 : List Value} {a : Array Value}
    (C : XC M d p R s m args meth c D E A ads) (hR : XR D E ads A b S im H) (hS : va_S A s.heap H locs) (hn : H.size + n0 = s.heap.size + S.1.length) (hb1 : cells + b.1 ≤ R.cells) (hb2 : slots + b.2 ≤ R.slots) (hl : xl ls L ads)
    (hr : va_Run p l e R s m args below meth c H locs cells slots b1.1 b1.2 (F0 m pc ls st0) (st.map (conc ads)) (XQ D E A ads S.1.length P a) A) :
    W p l e R s m args below meth c H locs cells slots (MQ below (XQ D E A ads n0 Q) args s R.cells R.slots A) (F0 m pc ls st0) := by
  refine xcall_go hr hS fun r S' im' H1 locs1 hp hPP hDD hz hS1 => ?_
  have hlen := hP _ _ _ hp
  have kk := k r S' im' hp p l e R s m args below meth c D E A ads H1 locs1 (cells + b1.1) (slots + b1.2) n0 ls C ⟨hPP, hDD, fun i hi => by
    rw [hlen, Nat.add_assoc, hR.2.2 (b1.1 + i) (by omega)]
    omega⟩ hS1 (by omega) (by omega) (by omega) hl
  rw [List.map_append] at kk
  have e2 : (r.toList).map (conc ads) = (r.map (conc ads)).toList := by cases r <;> rfl
  rw [e2] at kk
  exact kk
theorem xcats {st : List Value} (ads : Nat → Nat) (h : Nat.ble (st.map fun v => v.category).sum 8 = true) : 2 * 0 + ((st.map (conc ads)).map fun v => v.category).sum ≤ 8 := by
  rw [conc_cats]
  have := Nat.le_of_ble_eq_true h
  omega
theorem V.callV {M : XM} {d : Nat} {b b1 b2 : Nat × Nat} {pc : Nat} {L : List (Option Value)} {st : List Value} {S : XS} {im : XI} {Q : Option Value → XS → XI → Prop} {M2 : XM} {idx n ci N a : Nat} {T : u_T} {As As' : List Value} {P : Option Value → XS → XI → Prop}
    (hL : L.length = M.2.2.1) (hv : XV M2 n) (hlk : XLk M.1.cls idx M2) (hin : Cond.instanceMethod M2.1 ∈ xgood) (hse : Cond.selects M2.1.cls M2.1 M2.1 ∈ xgood) (hc : vwCl[ci]? = some (M2.1.cls, T, N)) (hsh : S.1[a]? = some (.inl ci)) (hn2 : As.length = n) (hAs : As.reverse ++ .ref a :: st = As') (hst : Nat.ble (st.map fun v => v.category).sum 8 = true) (hd : decode M.2.1 pc = .ok (.invokevirtual idx, 3))
    (hsp : Spec M2 d b1 (.ref a :: As) S im P) (hbud : b1.1 + b2.1 ≤ b.1 ∧ b1.2 + b2.2 ≤ b.2) (hP : ∀ r S' im', P r S' im' → S'.1.length = S.1.length + b1.1)
    (k : ∀ r S' im', P r S' im' → V M (d + 1) b2 (pc + 3) L (r.toList ++ st) S' im' Q) : V M (d + 1) b pc L As' S im Q := by
  intro p l e R s m args below meth c D E A ads H locs cells slots n0 ls C hR hS hn hb1 hb2 hl
  subst hAs
  have hM := hsp l D E A ads H.size (fun q hq => C.2.2.2.1 q (Nat.le_trans hS.1 hq))
  have hR1 : XR D E ads A b1 S im H := ⟨hR.1, hR.2.1, fun i hi => hR.2.2 i (by omega)⟩
  have hcell := va_recv (D := D) C.2.2.1.1 hR.1 hc (xw_get hsh)
  have hpre : PreV s H M2.1.cls (ads a) (XP D E A ads H.size b1 S im (.ref a :: As)) (As.map (conc ads)) := ⟨XP.blind, hcell, fun U hU hW => XP.start (vs := .ref a :: As) C hR1 hS U hU hW⟩
  have hroom := xroom (b1 := b1) C.2.2.2.2.1 C.2.2.2.2.2 hv.2.2.2
  have hstk : ((As.reverse ++ .ref a :: st).map (conc ads)) = (As.map (conc ads)).reverse ++ .ref (ads a) :: st.map (conc ads) := by simp [conc]
  rw [hstk]
  have hfit : cells + b1.1 ≤ R.cells ∧ slots + b1.2 ≤ R.slots := ⟨by omega, by omega⟩
  refine V.behind hbud hP k C hR hS hn hb1 hb2 hl ?_ (a := (Value.ref (ads a) :: As.map (conc ads)).toArray)
  rcases hlk with hlk | ⟨host, hlk⟩
  · have hG : GoodIn (xws M) (wsV M.1.cls idx M2.1.cls M2.1 (xws M2)) := xgoodIn (by
      intro w hw
      simp only [wsV, List.mem_append, List.mem_cons, List.not_mem_nil, or_false, xws] at hw
      rcases hw with (rfl | rfl | rfl | rfl) | (rfl | hw)
      · exact hlk
      · exact hin
      · exact hse
      · exact hv.2.1
      · exact hv.1
      · exact hw)
    exact va_runV C.1 hM (cwV n C.1.2.2.2.2 hG rfl rfl rfl ⟨rfl, hv.2.2.1⟩ hroom) hpre rfl (by rw [List.length_map]; exact hn2) (hl.1.trans hL) rfl (xcats ads hst) hd hfit
  · have hG : GoodIn (xws M) (xws M2) := xgoodIn (by
      intro w hw
      rcases List.mem_cons.mp hw with rfl | hw
      · exact hv.1
      · exact hw)
    exact va_runVN C.1 hM ⟨va_cnB n C.1.2.2.2.2 hG rfl rfl rfl (C.2.2.1.2.1.1 _ hlk) (C.1.2.2.2.2 _ (List.mem_cons_of_mem _ hv.2.1)) hv.2.2.1 hroom, C.1.2.2.2.2 _ (List.mem_cons_of_mem _ hin), C.1.2.2.2.2 _ (List.mem_cons_of_mem _ hse)⟩ hpre rfl (by rw [List.length_map]; exact hn2) (hl.1.trans hL) rfl (xcats ads hst) hd hfit
theorem V.callS {M : XM} {d : Nat} {b b1 b2 : Nat × Nat} {pc : Nat} {L : List (Option Value)} {st : List Value} {S : XS} {im : XI} {Q : Option Value → XS → XI → Prop} {M2 : XM} {idx n : Nat} {As As' : List Value} {P : Option Value → XS → XI → Prop}
    (hL : L.length = M.2.2.1) (hv : XV M2 n) (hlk : XLk M.1.cls idx M2) (hsta : Cond.static M2.1 ∈ xgood) (hn2 : As.length = n) (hAs : As.reverse ++ st = As') (hst : Nat.ble (st.map fun v => v.category).sum 8 = true) (hd : decode M.2.1 pc = .ok (.invokestatic idx, 3))
    (hsp : Spec M2 d b1 As S im P) (hbud : b1.1 + b2.1 ≤ b.1 ∧ b1.2 + b2.2 ≤ b.2) (hP : ∀ r S' im', P r S' im' → S'.1.length = S.1.length + b1.1)
    (k : ∀ r S' im', P r S' im' → V M (d + 1) b2 (pc + 3) L (r.toList ++ st) S' im' Q) : V M (d + 1) b pc L As' S im Q := by
  intro p l e R s m args below meth c D E A ads H locs cells slots n0 ls C hR hS hn hb1 hb2 hl
  subst hAs
  have hM := hsp l D E A ads H.size (fun q hq => C.2.2.2.1 q (Nat.le_trans hS.1 hq))
  have hR1 : XR D E ads A b1 S im H := ⟨hR.1, hR.2.1, fun i hi => hR.2.2 i (by omega)⟩
  have hpre : PreS s H (XP D E A ads H.size b1 S im As) (As.map (conc ads)) := ⟨XP.blind, fun U hU hW => XP.start (vs := As) C hR1 hS U hU hW⟩
  have hroom := xroom (b1 := b1) C.2.2.2.2.1 C.2.2.2.2.2 hv.2.2.2
  have hstk : ((As.reverse ++ st).map (conc ads)) = (As.map (conc ads)).reverse ++ st.map (conc ads) := by simp
  rw [hstk]
  have hfit : cells + b1.1 ≤ R.cells ∧ slots + b1.2 ≤ R.slots := ⟨by omega, by omega⟩
  refine V.behind hbud hP k C hR hS hn hb1 hb2 hl ?_ (a := (As.map (conc ads)).toArray)
  rcases hlk with hlk | ⟨host, hlk⟩
  · have hG : GoodIn (xws M) (va_wsS M.1.cls idx M2.1 (xws M2)) := xgoodIn (by
      intro w hw
      simp only [va_wsS, List.mem_append, List.mem_cons, List.not_mem_nil, or_false, xws] at hw
      rcases hw with (rfl | rfl | rfl) | (rfl | hw)
      · exact hlk
      · exact hsta
      · exact hv.2.1
      · exact hv.1
      · exact hw)
    exact va_runS C.1 hM (va_cwS n C.1.2.2.2.2 hG rfl rfl rfl hv.2.2.1 hroom) hpre rfl (by rw [List.length_map]; exact hn2) (hl.1.trans hL) rfl (xcats ads hst) hd hfit
  · have hG : GoodIn (xws M) (xws M2) := xgoodIn (by
      intro w hw
      rcases List.mem_cons.mp hw with rfl | hw
      · exact hv.1
      · exact hw)
    exact va_runSN C.1 hM ⟨va_cnB n C.1.2.2.2.2 hG rfl rfl rfl (C.2.2.1.2.1.1 _ hlk) (C.1.2.2.2.2 _ (List.mem_cons_of_mem _ hv.2.1)) hv.2.2.1 hroom, C.1.2.2.2.2 _ (List.mem_cons_of_mem _ hsta), trivial⟩ hpre rfl (by rw [List.length_map]; exact hn2) (hl.1.trans hL) rfl (xcats ads hst) hd hfit
theorem V.callI {M : XM} {d : Nat} {b b1 b2 : Nat × Nat} {pc : Nat} {L : List (Option Value)} {st : List Value} {S : XS} {im : XI} {Q : Option Value → XS → XI → Prop} {M2 : XM} {idx n a : Nat} {As As' : List Value} {P : Option Value → XS → XI → Prop}
    (hL : L.length = M.2.2.1) (hv : XV M2 n) (hlk : XLk M.1.cls idx M2) (hin : Cond.instanceMethod M2.1 ∈ xgood) (hy : M2.1.name = "<init>") (hret : M2.2.2.2 = none) (hn2 : As.length = n) (hAs : As.reverse ++ .ref a :: st = As') (hst : Nat.ble (st.map fun v => v.category).sum 8 = true) (hd : decode M.2.1 pc = .ok (.invokespecial idx, 3))
    (hsp : Spec M2 d b1 (.ref a :: As) S im P) (hbud : b1.1 + b2.1 ≤ b.1 ∧ b1.2 + b2.2 ≤ b.2) (hP : ∀ r S' im', P r S' im' → S'.1.length = S.1.length + b1.1)
    (k : ∀ r S' im', P r S' im' → V M (d + 1) b2 (pc + 3) L (r.toList ++ st) S' im' Q) : V M (d + 1) b pc L As' S im Q := by
  intro p l e R s m args below meth c D E A ads H locs cells slots n0 ls C hR hS hn hb1 hb2 hl
  subst hAs
  have hM := hsp l D E A ads H.size (fun q hq => C.2.2.2.1 q (Nat.le_trans hS.1 hq))
  have hR1 : XR D E ads A b1 S im H := ⟨hR.1, hR.2.1, fun i hi => hR.2.2 i (by omega)⟩
  have hpre : PreS s H (XP D E A ads H.size b1 S im (.ref a :: As)) (.ref (ads a) :: As.map (conc ads)) := ⟨XP.blind, fun U hU hW => XP.start (vs := .ref a :: As) C hR1 hS U hU hW⟩
  have hroom := xroom (b1 := b1) C.2.2.2.2.1 C.2.2.2.2.2 hv.2.2.2
  have hstk : ((As.reverse ++ .ref a :: st).map (conc ads)) = (As.map (conc ads)).reverse ++ .ref (ads a) :: st.map (conc ads) := by simp [conc]
  rw [hstk]
  have hfit : cells + b1.1 ≤ R.cells ∧ slots + b1.2 ≤ R.slots := ⟨by omega, by omega⟩
  refine V.behind hbud hP k C hR hS hn hb1 hb2 hl ?_ (a := (Value.ref (ads a) :: As.map (conc ads)).toArray)
  have hG : GoodIn (xws M) (xws M2) := xgoodIn (by
      intro w hw
      rcases List.mem_cons.mp hw with rfl | hw
      · exact hv.1
      · exact hw)
  have hw2 : xws M2 = Cond.code M2.1 M2.2.1 M2.2.2.1 none :: xgood := by unfold xws; rw [hret]
  have hw : ∀ w, w ∈ xgood → w.before args s = true := fun w h => C.1.2.2.2.2 w (List.mem_cons_of_mem _ h)
  rcases hlk with hlk | ⟨host, hlk⟩
  · exact va_runI C.1 hM (cwI n C.1.2.2.2.2 hG hw2 rfl rfl (hw _ hv.2.1) (hw _ hlk) (hw _ hin) hy hv.2.2.1 hroom) hpre rfl (by rw [List.length_map]; exact hn2) (hl.1.trans hL) rfl (xcats ads hst) hd hfit
  · exact va_runIN C.1 hM ⟨va_cnB n C.1.2.2.2.2 hG hw2 rfl rfl (C.2.2.1.2.1.1 _ hlk) (hw _ hv.2.1) hv.2.2.1 hroom, hy, hw _ hin⟩ hpre rfl (by rw [List.length_map]; exact hn2) (hl.1.trans hL) rfl (xcats ads hst) hd hfit
-- ===== making =====
theorem V.new {M : XM} {d : Nat} {b : Nat × Nat} {pc : Nat} {L : List (Option Value)} {st : List Value} {S : XS} {im : XI} {Q : Option Value → XS → XI → Prop} {idx ci N : Nat} {CC : String} {T : u_T} (hc : vwCl[ci]? = some (CC, T, N)) (hcl : Cond.classLink M.1.cls idx CC ∈ xgood) (hinst : Cond.instantiable CC N ∈ xgood) (hini : Cond.initialized CC ∈ xgood) {b' : Nat × Nat} (hbud : 1 + b'.1 ≤ b.1 ∧ N + b'.2 ≤ b.2) (hd : decode M.2.1 pc = .ok (.new idx, 3))
    (k : V M d b' (pc + 3) L (.ref S.1.length :: st) (xpush S (.inl ci)) (xz im S.1.length) Q) : V M d b pc L st S im Q := by
  intro p l e R s m args below meth c D E A ads H locs cells slots n0 ls C hR hS hn hb1 hb2 hl
  have hw : ∀ w, w ∈ xgood → w.before args s = true := fun w h => C.1.2.2.2.2 w (List.mem_cons_of_mem _ h)
  obtain ⟨hin0, ty0, hty0, hnm, hdef⟩ := xcl hc
  have hin : ∀ w ∈ u_ws CC T N, w ∈ xws M := fun w hw => List.mem_cons_of_mem _ (hin0 w hw)
  have hKn := C.2.2.1.1.1 ci _ hc
  have hx := xnf_of hc
  have hn1 : ads S.1.length = H.size := by have := hR.2.2 0 (by omega); simpa using this
  refine W.newcK C.1.1 C.1.2.1 C.1.2.2.2.1 (hw _ hcl) (hw _ hinst) (hw _ hini) rfl hd (by omega) (by omega) hKn.2.1 rfl fun H1 kC hkC e1 z1 o1 => ?_
  have hk : ∀ (k : Nat) (x : Nat × va_E), (xw E ads S im)[k]? = some x → H1[x.1]? = H[x.1]? := fun k x hx => o1 x.1 ((hR.1 k x hx).lt)
  have hP1 : va_P D vwCl (xw E ads S im ++ [(ads S.1.length, xcell E ads (fun _ => none) (fun _ => 0) (.inl ci))]) H1 := by
    refine (hR.1.kept hk).app (fun k x hx' => ?_)
    have hz : k < 1 := (List.getElem?_eq_some_iff.mp hx').1
    rw [show k = 0 by omega] at hx'
    cases hx'
    show va_at D vwCl (ads S.1.length, .inr (ci, xfs ads ci (fun _ => none) (fun _ => 0))) H1
    rw [hn1]
    refine ⟨_, hc, (u_born ty0 C.1.2.2.2.2 hin hKn hkC e1 hty0).to (fun j hj => ?_)⟩
    rw [hdef j hj]
    have hg := xfs_get (ads := ads) (ci := ci) (j := j) (rm := fun _ => none) (im := fun _ => 0) (by rw [hx]; exact hj)
    simp only [vp_V, List.getD_eq_getElem?_getD, hg, Option.getD_some, xfv, Option.map_none, va_rf]
  have hD1 := hR.2.1.push (e := xcell E ads (fun _ => none) (fun _ => 0) (.inl ci)) hR.1 hn1 (by rw [hn1]; exact C.2.2.2.1 _ hS.1)
  rw [← xw_push] at hP1 hD1
  have kk := k p l e R s m args below meth c D E A ads H1 locs (cells + 1) (slots + N) n0 ls C ⟨hP1, hD1, fun i hi => by
      have := hR.2.2 (1 + i) (by omega)
      simp only [xpush, List.length_append, List.length_singleton]
      rw [Nat.add_assoc, this, z1]; omega⟩ ⟨Nat.le_trans hS.1 (by omega), fun x h1 h2 => (o1 x (Nat.lt_of_lt_of_le h1 hS.1)).trans (hS.2.1 x h1 h2), hS.2.2⟩ (by simp only [xpush, List.length_append, List.length_singleton]; omega) (by omega) (by omega) hl
  rw [List.map_cons, show conc ads (.ref S.1.length) = .ref H.size by rw [← hn1]; rfl] at kk
  exact kk
theorem V.newa {M : XM} {d : Nat} {b : Nat × Nat} {pc : Nat} {L : List (Option Value)} {st : List Value} {S : XS} {im : XI} {Q : Option Value → XS → XI → Prop} {n : Nat} {x : Int32} (hx : x = nI n) (hn3 : Nat.blt n 100000 = true) (harr : Cond.arrayClass .int ∈ xgood) {b' : Nat × Nat} (hbud : 1 + b'.1 ≤ b.1 ∧ n + b'.2 ≤ b.2) (hd : decode M.2.1 pc = .ok (.newarray .int, 2))
    (k : V M d b' (pc + 2) L (.ref S.1.length :: st) (xpush S (.inr (.inl n))) (xz im S.1.length) Q) : V M d b pc L (.int x :: st) S im Q := by
  intro p l e R s m args below meth c D E A ads H locs cells slots n0 ls C hR hS hn hb1 hb2 hl
  subst hx
  have hn4 : n < 100000 := Nat.le_of_ble_eq_true hn3
  have hw : ∀ w, w ∈ xgood → w.before args s = true := fun w h => C.1.2.2.2.2 w (List.mem_cons_of_mem _ h)
  have hn1 : ads S.1.length = H.size := by have := hR.2.2 0 (by omega); simpa using this
  refine va_newaK (atype := .int) C.1.1 C.1.2.1 (hw _ harr) rfl hd rfl (nI_pos (by omega)) (nI_clamp (by omega)) (by show n * 4 ≤ _; omega) (by omega) (by omega) rfl fun H1 cA e1 z1 o1 hAr hNm => ?_
  have hcA : cA = E 0 := by
    have h9 := (C.2.2.1.1.2 0 _ rfl).2
    exact Option.some.inj (hNm.symm.trans h9)
  subst hcA
  have hk : ∀ (k : Nat) (x : Nat × va_E), (xw E ads S im)[k]? = some x → H1[x.1]? = H[x.1]? := fun k x hx => o1 x.1 ((hR.1 k x hx).lt)
  have hP1 : va_P D vwCl (xw E ads S im ++ [(ads S.1.length, xcell E ads (fun _ => none) (fun _ => 0) (.inr (.inl n)))]) H1 := by
    refine (hR.1.kept hk).app (fun k x hx' => ?_)
    have hz : k < 1 := (List.getElem?_eq_some_iff.mp hx').1
    rw [show k = 0 by omega] at hx'
    cases hx'
    show H1[ads S.1.length]? = some (vp_cell _ _)
    rw [hn1, vp_cell_i]
    exact e1
  have hD1 := hR.2.1.push (e := xcell E ads (fun _ => none) (fun _ => 0) (.inr (.inl n))) hR.1 hn1 (by rw [hn1]; exact C.2.2.2.1 _ hS.1)
  rw [← xw_push] at hP1 hD1
  have kk := k p l e R s m args below meth c D E A ads H1 locs (cells + 1) (slots + n) n0 ls C ⟨hP1, hD1, fun i hi => by
      have := hR.2.2 (1 + i) (by omega)
      simp only [xpush, List.length_append, List.length_singleton]
      rw [Nat.add_assoc, this, z1]; omega⟩ ⟨Nat.le_trans hS.1 (by omega), fun x h1 h2 => (o1 x (Nat.lt_of_lt_of_le h1 hS.1)).trans (hS.2.1 x h1 h2), hS.2.2⟩ (by simp only [xpush, List.length_append, List.length_singleton]; omega) (by omega) (by omega) hl
  rw [List.map_cons, show conc ads (.ref S.1.length) = .ref H.size by rw [← hn1]; rfl] at kk
  exact kk
theorem V.newq {M : XM} {d : Nat} {b : Nat × Nat} {pc : Nat} {L : List (Option Value)} {st : List Value} {S : XS} {im : XI} {Q : Option Value → XS → XI → Prop} {idx t n : Nat} {x : Int32} (ht : Nat.blt t 3 = true) (hx : x = nI n) (hn3 : Nat.blt n 100000 = true) (hcl : Cond.classLink M.1.cls idx (xel t) ∈ xgood) {b' : Nat × Nat} (hbud : 1 + b'.1 ≤ b.1 ∧ n + b'.2 ≤ b.2) (hd : decode M.2.1 pc = .ok (.anewarray idx, 3))
    (k : V M d b' (pc + 3) L (.ref S.1.length :: st) (xpush S (.inr (.inr (t, n)))) (xz im S.1.length) Q) : V M d b pc L (.int x :: st) S im Q := by
  intro p l e R s m args below meth c D E A ads H locs cells slots n0 ls C hR hS hn hb1 hb2 hl
  subst hx
  have hn4 : n < 100000 := Nat.le_of_ble_eq_true hn3
  have ht : t < 3 := Nat.le_of_ble_eq_true ht
  have hw : ∀ w, w ∈ xgood → w.before args s = true := fun w h => C.1.2.2.2.2 w (List.mem_cons_of_mem _ h)
  have hn1 : ads S.1.length = H.size := by have := hR.2.2 0 (by omega); simpa using this
  have hao : va_AO (xel t) s := by
    match t, ht with
    | 0, _ => exact C.2.2.1.2.1.2.1
    | 1, _ => exact C.2.2.1.2.1.2.2.1
    | 2, _ => exact C.2.2.1.2.1.2.2.2
  have hcl0 : (nI n).toNatClampNeg = n := nI_clamp (by omega)
  refine W.anew C.1.1 C.1.2.1 C.1.2.2.2.1 (hw _ hcl) (va_AO.use hao) rfl hd rfl (nI_pos (by omega)) (by rw [hcl0]; omega) (by omega) (by rw [hcl0]; omega) fun cA kA comp f1 f2 f3 f4 => ?_
  have hcA : cA = E (t + 1) := by
    obtain ⟨_, _, _, _, _, h9⟩ := (C.2.2.1.1.2 (t + 1) _ (xtys_get ht)).2
    exact Option.some.inj (f1.symm.trans h9)
  subst hcA
  rw [hcl0]
  generalize hH1 : H.push ({ cls := E (t + 1), slots := Array.replicate n .null, vm := .none } : Cell) = H1
  have z1 : H1.size = H.size + 1 := by rw [← hH1, Array.size_push]
  have e1 : H1[H.size]? = some (arrV (E (t + 1)) n (fun _ => .null)) := by rw [← hH1, Array.getElem?_push_size, ← arrV_new]
  have o1 : ∀ q : Nat, q < H.size → H1[q]? = H[q]? := fun q hq => by rw [← hH1, Array.getElem?_push, if_neg (Nat.ne_of_lt hq)]
  have hk : ∀ (k : Nat) (x : Nat × va_E), (xw E ads S im)[k]? = some x → H1[x.1]? = H[x.1]? := fun k x hx => o1 x.1 ((hR.1 k x hx).lt)
  have hP1 : va_P D vwCl (xw E ads S im ++ [(ads S.1.length, xcell E ads (fun _ => none) (fun _ => 0) (.inr (.inr (t, n))))]) H1 := by
    refine (hR.1.kept hk).app (fun k x hx' => ?_)
    have hz : k < 1 := (List.getElem?_eq_some_iff.mp hx').1
    rw [show k = 0 by omega] at hx'
    cases hx'
    show H1[ads S.1.length]? = some (vp_cell _ _)
    rw [hn1, vp_cell_q]
    exact e1
  have hD1 := hR.2.1.push (e := xcell E ads (fun _ => none) (fun _ => 0) (.inr (.inr (t, n)))) hR.1 hn1 (by rw [hn1]; exact C.2.2.2.1 _ hS.1)
  rw [← xw_push] at hP1 hD1
  have kk := k p l e R s m args below meth c D E A ads H1 locs (cells + 1) (slots + n) n0 ls C ⟨hP1, hD1, fun i hi => by
      have := hR.2.2 (1 + i) (by omega)
      simp only [xpush, List.length_append, List.length_singleton]
      rw [Nat.add_assoc, this, z1]; omega⟩ ⟨Nat.le_trans hS.1 (by omega), fun x h1 h2 => (o1 x (Nat.lt_of_lt_of_le h1 hS.1)).trans (hS.2.1 x h1 h2), hS.2.2⟩ (by simp only [xpush, List.length_append, List.length_singleton]; omega) (by omega) (by omega) hl
  rw [List.map_cons, show conc ads (.ref S.1.length) = .ref H.size by rw [← hn1]; rfl] at kk
  exact kk
theorem V.objInit {M : XM} {d : Nat} {b : Nat × Nat} {pc : Nat} {L : List (Option Value)} {st : List Value} {S : XS} {im : XI} {Q : Option Value → XS → XI → Prop} {idx a : Nat} (hL : L.length = M.2.2.1) (hlk : Cond.methodLink M.1.cls idx objectInit ∈ xgood) (hin : Cond.instanceMethod objectInit ∈ xgood) (hco : Cond.code objectInit ⟨#[0xb1]⟩ 1 none ∈ xgood) (hst : st = []) (hd : decode M.2.1 pc = .ok (.invokespecial idx, 3)) (k : V M (d + 1) b (pc + 3) L st S im Q) : V M (d + 1) b pc L (.ref a :: st) S im Q := by
  intro p l e R s m args below meth c D E A ads H locs cells slots n0 ls C hR hS hn hb1 hb2 hl
  subst hst
  have hw : ∀ w, w ∈ xgood → w.before args s = true := fun w h => C.1.2.2.2.2 w (List.mem_cons_of_mem _ h)
  refine W.objInit C.1.1 C.1.2.1 C.1.2.2.2.1 (hw _ hlk) (hw _ hin) (hw _ hco) rfl (by rw [C.1.2.2.1, ← hL]; exact hl.1) rfl hd (by rw [C.2.2.2.2.1]; omega) (by rw [C.2.2.2.2.2]; exact Nat.le_trans (m := 64) (Nat.le_of_ble_eq_true rfl) (by omega)) ?_
  refine W.eq (g2 := F0 m (pc + 3) ls []) rfl ?_
  exact k p l e R s m args below meth c D E A ads H locs cells slots n0 ls C hR hS hn hb1 hb2 hl

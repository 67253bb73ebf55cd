def lbud (bo : Bool) : Nat × Nat := if bo = true then (0, 0) else (27, 404)
abbrev lL (i : Nat) : List (Option Value) := [some (.ref 0), some (.ref 1), some (.ref 2), some (.int (nI i))]
theorem xsc0 {bo : Bool} : (SC bo).1[0]? = some (.inl 9) := by cases bo <;> rfl
section LVC
variable {Ln : Nat} {xs : Nat → Int32} {bud : Nat × Nat} {pc : Nat} {L : List (Option Value)} {st : List Value} {i1 i2 : XI} {bo : Bool}
theorem LV.c1 {As As' : List Value} {P : Int32 → XI → Prop} {M2 : XM} {idx n d N : Nat} {T : u_T} (hL4 : L.length = 4) (hv : XV M2 n) (hlk : Cond.methodLink R_law idx M2.1 ∈ xgood) (hin : Cond.instanceMethod M2.1 ∈ xgood ∧ Cond.selects M2.1.cls M2.1 M2.1 ∈ xgood) (hc : vwCl[9]? = some (M2.1.cls, T, N)) (hn2 : As.length = n) (hAs : As.reverse ++ .ref 1 :: st = As') (hst : Nat.ble (st.map fun v => v.category).sum 8 = true) (hd : decode code pc = .ok (.invokevirtual idx, 3)) (hdp : Nat.ble d 1200 = true) (hcon : ∀ ads : Nat → Nat, As.map (conc ads) = As)
    (hsp : SpI M2 d (.ref 0 :: As) (SC bo) i1 P) (k : ∀ x im', P x im' → LV Ln xs bud (pc + 3) L (.int x :: st) (SC bo) im' SM i2) : LV Ln xs bud pc L As' (SC bo) i1 SM i2 :=
  LV.call1 (b1 := (0, 0)) (bud' := bud) (K := fun x S' im' => S' = SC bo ∧ P x im') hL4 hv hlk hin hc xsc0 hn2 hAs hst hd hdp hcon (fun _ _ _ i h => absurd h (Nat.not_lt_zero i)) ⟨by simp, by simp⟩ hsp (fun r S' im' h => by
    obtain ⟨h1, x, h2, h3⟩ := h
    exact ⟨x, h2, h1, h3⟩) (fun x S' im' h => by
    obtain ⟨rfl, h⟩ := h
    exact k x im' h)
theorem LV.c2 {As As' : List Value} {P : Int32 → XI → Prop} {M2 : XM} {idx n d N : Nat} {T : u_T} (hL4 : L.length = 4) (hv : XV M2 n) (hlk : Cond.methodLink R_law idx M2.1 ∈ xgood) (hin : Cond.instanceMethod M2.1 ∈ xgood ∧ Cond.selects M2.1.cls M2.1 M2.1 ∈ xgood) (hc : vwCl[10]? = some (M2.1.cls, T, N)) (hn2 : As.length = n) (hAs : As.reverse ++ .ref 2 :: st = As') (hst : Nat.ble (st.map fun v => v.category).sum 8 = true) (hd : decode code pc = .ok (.invokevirtual idx, 3)) (hdp : Nat.ble d 1200 = true) (hcon : ∀ ads : Nat → Nat, As.map (conc ads) = As)
    (hsp : SpI M2 d (.ref 0 :: As) SM i2 P) (k : ∀ x im', P x im' → LV Ln xs bud (pc + 3) L (.int x :: st) (SC bo) i1 SM im') : LV Ln xs bud pc L As' (SC bo) i1 SM i2 :=
  LV.call2 (b1 := (0, 0)) (bud' := bud) (K := fun x S' im' => S' = SM ∧ P x im') hL4 hv hlk hin hc rfl hn2 hAs hst hd hdp hcon (fun _ _ _ i h => absurd h (Nat.not_lt_zero i)) ⟨by simp, by simp⟩ hsp (fun r S' im' h => by
    obtain ⟨h1, x, h2, h3⟩ := h
    exact ⟨x, h2, h1, h3⟩) (fun x S' im' h => by
    obtain ⟨rfl, h⟩ := h
    exact k x im' h)
end LVC
theorem lads1 {n ka na i : Nat} (h : i < 27) : LA1 n ka na ((SC false).1.length + i) = n + (SC false).1.length + SM.1.length + i := by
  have e1 : (SC false).1.length = 50 := rfl
  have e2 : SM.1.length = 13 := rfl
  rw [e1, e2]
  unfold LA1
  rw [if_neg (by omega), if_pos (by omega)]
  omega
theorem REL.mono {bo : Bool} {N : Nat} {ic im : XI} (h : REL bo N ic im) : REL bo (N + 1) ic im := by
  obtain ⟨h1, h2, h3, h4, ⟨⟨K, a, b⟩, g⟩⟩ := h
  exact ⟨h1, h2, h3, h4, ⟨⟨K, by omega, b⟩, g⟩⟩

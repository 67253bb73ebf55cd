-- ===== contracts by what comes back; calls by them =====
def SpI (M : XM) (d : Nat) (vs : List Value) (S : XS) (im : XI) (P : Int32 → XI → Prop) : Prop := Spec M d (0, 0) vs S im (fun r S' im' => S' = S ∧ ∃ x : Int32, r = some (.int x) ∧ P x im')
def SpV (M : XM) (d : Nat) (vs : List Value) (S : XS) (im : XI) (P : XI → Prop) : Prop := Spec M d (0, 0) vs S im (fun r S' im' => S' = S ∧ r = none ∧ P im')
def SpR (M : XM) (d : Nat) (vs : List Value) (S : XS) (im : XI) (P : Nat → XI → Prop) : Prop := Spec M d (0, 0) vs S im (fun r S' im' => S' = S ∧ ∃ a : Nat, r = some (.ref a) ∧ P a im')
def SpC (M : XM) (d : Nat) (b : Nat × Nat) (vs : List Value) (S : XS) (im : XI) (P : XS → XI → Prop) : Prop := Spec M d b vs S im (fun r S' im' => r = none ∧ P S' im')
theorem xb0 {b : Nat × Nat} : ((0, 0) : Nat × Nat).1 + b.1 ≤ b.1 ∧ ((0, 0) : Nat × Nat).2 + b.2 ≤ b.2 := ⟨by simp, by simp⟩
theorem V.cVI {M : XM} {d : Nat} {b : Nat × Nat} {pc : Nat} {L : List (Option Value)} {st : List Value} {S : XS} {im : XI} {Q : Option Value → XS → XI → Prop} {M2 : XM} {idx n ci N a : Nat} {T : u_T} {As As' : List Value} {P : Int32 → XI → Prop}
    (hL : L.length = M.2.2.1) (hv : XV M2 n) (hlk : XLk M.1.cls idx M2) (hin : Cond.instanceMethod M2.1 ∈ xgood ∧ Cond.selects M2.1.cls M2.1 M2.1 ∈ xgood) (hc : vwCl[ci]? = some (M2.1.cls, T, N)) (hsh : S.1[a]? = some (.inl ci)) (hn2 : As.length = n) (hAs : As.reverse ++ .ref a :: st = As') (hst : Nat.ble (st.map fun v => v.category).sum 8 = true) (hd : decode M.2.1 pc = .ok (.invokevirtual idx, 3))
    (hsp : SpI M2 d (.ref a :: As) S im P) (k : ∀ x im', P x im' → V M (d + 1) b (pc + 3) L (.int x :: st) S im' Q) : V M (d + 1) b pc L As' S im Q :=
  V.callV hL hv hlk hin.1 hin.2 hc hsh hn2 hAs hst hd hsp xb0 (fun r S' im' h => by rw [h.1]; rfl) (fun r S' im' h => by
    obtain ⟨rfl, x, rfl, h⟩ := h
    exact k x im' h)
theorem V.cVV {M : XM} {d : Nat} {b : Nat × Nat} {pc : Nat} {L : List (Option Value)} {st : List Value} {S : XS} {im : XI} {Q : Option Value → XS → XI → Prop} {M2 : XM} {idx n ci N a : Nat} {T : u_T} {As As' : List Value} {P : XI → Prop}
    (hL : L.length = M.2.2.1) (hv : XV M2 n) (hlk : XLk M.1.cls idx M2) (hin : Cond.instanceMethod M2.1 ∈ xgood ∧ Cond.selects M2.1.cls M2.1 M2.1 ∈ xgood) (hc : vwCl[ci]? = some (M2.1.cls, T, N)) (hsh : S.1[a]? = some (.inl ci)) (hn2 : As.length = n) (hAs : As.reverse ++ .ref a :: st = As') (hst : Nat.ble (st.map fun v => v.category).sum 8 = true) (hd : decode M.2.1 pc = .ok (.invokevirtual idx, 3))
    (hsp : SpV M2 d (.ref a :: As) S im P) (k : ∀ im', P im' → V M (d + 1) b (pc + 3) L st S im' Q) : V M (d + 1) b pc L As' S im Q :=
  V.callV hL hv hlk hin.1 hin.2 hc hsh hn2 hAs hst hd hsp xb0 (fun r S' im' h => by rw [h.1]; rfl) (fun r S' im' h => by
    obtain ⟨rfl, rfl, h⟩ := h
    exact k im' h)
theorem V.cVR {M : XM} {d : Nat} {b : Nat × Nat} {pc : Nat} {L : List (Option Value)} {st : List Value} {S : XS} {im : XI} {Q : Option Value → XS → XI → Prop} {M2 : XM} {idx n ci N a : Nat} {T : u_T} {As As' : List Value} {P : Nat → XI → Prop}
    (hL : L.length = M.2.2.1) (hv : XV M2 n) (hlk : XLk M.1.cls idx M2) (hin : Cond.instanceMethod M2.1 ∈ xgood ∧ Cond.selects M2.1.cls M2.1 M2.1 ∈ xgood) (hc : vwCl[ci]? = some (M2.1.cls, T, N)) (hsh : S.1[a]? = some (.inl ci)) (hn2 : As.length = n) (hAs : As.reverse ++ .ref a :: st = As') (hst : Nat.ble (st.map fun v => v.category).sum 8 = true) (hd : decode M.2.1 pc = .ok (.invokevirtual idx, 3))
    (hsp : SpR M2 d (.ref a :: As) S im P) (k : ∀ x im', P x im' → V M (d + 1) b (pc + 3) L (.ref x :: st) S im' Q) : V M (d + 1) b pc L As' S im Q :=
  V.callV hL hv hlk hin.1 hin.2 hc hsh hn2 hAs hst hd hsp xb0 (fun r S' im' h => by rw [h.1]; rfl) (fun r S' im' h => by
    obtain ⟨rfl, x, rfl, h⟩ := h
    exact k x im' h)
theorem V.cSI {M : XM} {d : Nat} {b : Nat × Nat} {pc : Nat} {L : List (Option Value)} {st : List Value} {S : XS} {im : XI} {Q : Option Value → XS → XI → Prop} {M2 : XM} {idx n : Nat} {As As' : List Value} {P : Int32 → XI → Prop}
    (hL : L.length = M.2.2.1) (hv : XV M2 n) (hlk : XLk M.1.cls idx M2) (hsta : Cond.static M2.1 ∈ xgood) (hn2 : As.length = n) (hAs : As.reverse ++ st = As') (hst : Nat.ble (st.map fun v => v.category).sum 8 = true) (hd : decode M.2.1 pc = .ok (.invokestatic idx, 3))
    (hsp : SpI M2 d As S im P) (k : ∀ x im', P x im' → V M (d + 1) b (pc + 3) L (.int x :: st) S im' Q) : V M (d + 1) b pc L As' S im Q :=
  V.callS hL hv hlk hsta hn2 hAs hst hd hsp xb0 (fun r S' im' h => by rw [h.1]; rfl) (fun r S' im' h => by
    obtain ⟨rfl, x, rfl, h⟩ := h
    exact k x im' h)
theorem V.cSV {M : XM} {d : Nat} {b : Nat × Nat} {pc : Nat} {L : List (Option Value)} {st : List Value} {S : XS} {im : XI} {Q : Option Value → XS → XI → Prop} {M2 : XM} {idx n : Nat} {As As' : List Value} {P : XI → Prop}
    (hL : L.length = M.2.2.1) (hv : XV M2 n) (hlk : XLk M.1.cls idx M2) (hsta : Cond.static M2.1 ∈ xgood) (hn2 : As.length = n) (hAs : As.reverse ++ st = As') (hst : Nat.ble (st.map fun v => v.category).sum 8 = true) (hd : decode M.2.1 pc = .ok (.invokestatic idx, 3))
    (hsp : SpV M2 d As S im P) (k : ∀ im', P im' → V M (d + 1) b (pc + 3) L st S im' Q) : V M (d + 1) b pc L As' S im Q :=
  V.callS hL hv hlk hsta hn2 hAs hst hd hsp xb0 (fun r S' im' h => by rw [h.1]; rfl) (fun r S' im' h => by
    obtain ⟨rfl, rfl, h⟩ := h
    exact k im' h)
theorem V.cC {M : XM} {d : Nat} {b b1 b2 : Nat × Nat} {pc : Nat} {L : List (Option Value)} {st : List Value} {S : XS} {im : XI} {Q : Option Value → XS → XI → Prop} {M2 : XM} {idx n a : Nat} {As As' : List Value} {P : XS → XI → Prop}
    (hL : L.length = M.2.2.1) (hv : XV M2 n) (hlk : XLk M.1.cls idx M2) (hin : Cond.instanceMethod M2.1 ∈ xgood) (hy : M2.1.name = "<init>") (hret : M2.2.2.2 = none) (hn2 : As.length = n) (hAs : As.reverse ++ .ref a :: st = As') (hst : Nat.ble (st.map fun v => v.category).sum 8 = true) (hd : decode M.2.1 pc = .ok (.invokespecial idx, 3))
    (hsp : SpC M2 d b1 (.ref a :: As) S im P) (hbud : b1.1 + b2.1 ≤ b.1 ∧ b1.2 + b2.2 ≤ b.2) (hP : ∀ S' im', P S' im' → S'.1.length = S.1.length + b1.1)
    (k : ∀ S' im', P S' im' → V M (d + 1) b2 (pc + 3) L st S' im' Q) : V M (d + 1) b pc L As' S im Q :=
  V.callI hL hv hlk hin hy hret hn2 hAs hst hd hsp hbud (fun r S' im' h => hP _ _ h.2) (fun r S' im' h => by
    obtain ⟨rfl, h⟩ := h
    exact k S' im' h)
theorem SpI.of {M : XM} {d : Nat} {vs : List Value} {S : XS} {im : XI} {P : Int32 → XI → Prop} (L : List (Option Value)) (hL : xlocs vs M.2.2.1 = L) (hp : plainName M.1.cls = true) (hle : Nat.ble (xentry vs).length M.2.2.1 = true)
    (k : ∀ Q : Option Value → XS → XI → Prop, (∀ x im', P x im' → Q (some (.int x)) S im') → V M d (0, 0) 0 L [] S im Q) : SpI M d vs S im P :=
  Spec.of L hL hp hle (k _ (fun x im' h => ⟨rfl, x, rfl, h⟩))
theorem SpV.of {M : XM} {d : Nat} {vs : List Value} {S : XS} {im : XI} {P : XI → Prop} (L : List (Option Value)) (hL : xlocs vs M.2.2.1 = L) (hp : plainName M.1.cls = true) (hle : Nat.ble (xentry vs).length M.2.2.1 = true)
    (k : ∀ Q : Option Value → XS → XI → Prop, (∀ im', P im' → Q none S im') → V M d (0, 0) 0 L [] S im Q) : SpV M d vs S im P :=
  Spec.of L hL hp hle (k _ (fun im' h => ⟨rfl, rfl, h⟩))
theorem SpR.of {M : XM} {d : Nat} {vs : List Value} {S : XS} {im : XI} {P : Nat → XI → Prop} (L : List (Option Value)) (hL : xlocs vs M.2.2.1 = L) (hp : plainName M.1.cls = true) (hle : Nat.ble (xentry vs).length M.2.2.1 = true)
    (k : ∀ Q : Option Value → XS → XI → Prop, (∀ x im', P x im' → Q (some (.ref x)) S im') → V M d (0, 0) 0 L [] S im Q) : SpR M d vs S im P :=
  Spec.of L hL hp hle (k _ (fun x im' h => ⟨rfl, x, rfl, h⟩))
theorem SpC.of {M : XM} {d : Nat} {b : Nat × Nat} {vs : List Value} {S : XS} {im : XI} {P : XS → XI → Prop} (L : List (Option Value)) (hL : xlocs vs M.2.2.1 = L) (hp : plainName M.1.cls = true) (hle : Nat.ble (xentry vs).length M.2.2.1 = true)
    (k : ∀ Q : Option Value → XS → XI → Prop, (∀ S' im', P S' im' → Q none S' im') → V M d b 0 L [] S im Q) : SpC M d b vs S im P :=
  Spec.of L hL hp hle (k _ (fun S' im' h => ⟨rfl, h⟩))
theorem Spec.mono {M : XM} {d : Nat} {b : Nat × Nat} {vs : List Value} {S : XS} {im : XI} {Q Q' : Option Value → XS → XI → Prop} (h : ∀ r S' im', Q r S' im' → Q' r S' im') (k : Spec M d b vs S im Q) : Spec M d b vs S im Q' := by
  intro l D E A ads sz hA
  have k1 := k l D E A ads sz hA
  intro p e ha hc hk s m args below hf hpre hP hK
  obtain ⟨t, o, q1, q2, q3, ⟨⟨r, S', im', q4, q5, q6⟩, q7⟩, q8⟩ := k1 p e ha hc hk s m args below hf hpre hP hK
  exact ⟨t, o, q1, q2, q3, ⟨⟨r, S', im', q4, h _ _ _ q5, q6⟩, q7⟩, q8⟩
theorem SpI.mono {M : XM} {d : Nat} {vs : List Value} {S : XS} {im : XI} {P P' : Int32 → XI → Prop} (h : ∀ x im', P x im' → P' x im') (k : SpI M d vs S im P) : SpI M d vs S im P' :=
  Spec.mono (fun r S' im' ⟨h1, x, h2, h3⟩ => ⟨h1, x, h2, h x im' h3⟩) k
theorem SpV.mono {M : XM} {d : Nat} {vs : List Value} {S : XS} {im : XI} {P P' : XI → Prop} (h : ∀ im', P im' → P' im') (k : SpV M d vs S im P) : SpV M d vs S im P' :=
  Spec.mono (fun r S' im' ⟨h1, h2, h3⟩ => ⟨h1, h2, h im' h3⟩) k
theorem xtab_out {x : Int32} {lo hi : Int} (h : ∀ k : Int, lo ≤ k → k ≤ hi → ¬ x.toInt = k) : x.toInt < lo ∨ hi < x.toInt := by
  by_cases h1 : x.toInt < lo
  · exact Or.inl h1
  · right
    have := h x.toInt
    omega
def xmask (bs : List Bool) (L : List (Option Value)) : List (Option Value) := List.zipWith (fun (b : Bool) (o : Option Value) => if b = true then o else none) bs L
theorem V.weakm {M : XM} {d : Nat} {b : Nat × Nat} {pc : Nat} {L : List (Option Value)} {st : List Value} {S : XS} {im : XI} {Q : Option Value → XS → XI → Prop} (bs : List Bool) (hb : bs.length = L.length) (k : V M d b pc (xmask bs L) st S im Q) : V M d b pc L st S im Q := by
  refine V.weak (L' := xmask bs L) (by simp [xmask, hb]) (fun i v hv => ?_) k
  simp only [xmask, List.getElem?_zipWith] at hv
  cases hbi : bs[i]? with
  | none => simp [hbi] at hv
  | some x =>
    cases hL : L[i]? with
    | none => simp [hbi, hL] at hv
    | some o =>
      cases x <;> simp [hbi, hL] at hv
      rw [hv]

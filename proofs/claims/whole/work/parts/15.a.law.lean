-- ===== the law's own judgement: two worlds side by side =====
abbrev LA (s : State) : Nat → Prop := fun q => s.heap.size ≤ q
def LA1 (n ka na : Nat) : Nat → Nat := fun k => if k < 50 then n + k else if k < 77 then n + k + 13 else if k = xKA then ka else na
def LA2 (n ka na : Nat) : Nat → Nat := fun k => if k < 77 then n + 50 + k else if k = xKA then ka else na
def LA0 (n b : Nat) : Nat → Nat := fun k => if k = 0 then b else if k = 1 then n else n + 50
def LX (p : Program) (s : State) (m : MethodId) (meth : Method) (c : Code) (b Ln : Nat) (xs : Nat → Int32) (D : va_G) (E : Nat → ClassId) (ka na : Nat) : Prop :=
  lw_At p s m meth c b Ln xs ∧ va_K D vwCl (xtys E) s ∧ XN s ∧ XT (LA1 s.heap.size ka na) (LA s) s s.heap ∧ XT (LA2 s.heap.size ka na) (LA s) s s.heap
def L2 (D : va_G) (A : Nat → Prop) (W1 W2 : va_W) (H : Heap) : Prop := va_P D vwCl W1 H ∧ va_P D vwCl W2 H ∧ va_D A W1 ∧ va_D A W2 ∧ ∀ (i j : Nat) (p q : Nat × va_E), W1[i]? = some p → W2[j]? = some q → p.1 ≠ q.1
theorem L2.sw {D : va_G} {A : Nat → Prop} {W1 W2 : va_W} {H : Heap} (h : L2 D A W1 W2 H) : L2 D A W2 W1 H :=
  ⟨h.2.1, h.1, h.2.2.2.1, h.2.2.1, fun i j p q a b => (h.2.2.2.2 j i q p b a).symm⟩
theorem L2.step {D : va_G} {A : Nat → Prop} {W1 W2 W1' : va_W} {H H1 : Heap} (h : L2 D A W1 W2 H) (hA : ∀ q : Nat, H.size ≤ q → A q) (hk : ∀ q : Nat, q < H.size → ¬ va_A W1 H.size q → H1[q]? = H[q]?) (hP : va_P D vwCl W1' H1) (hD : va_D (va_A W1 H.size) W1') : L2 D A W1' W2 H1 := by
  have apart : ∀ (k : Nat) (q : Nat × va_E), W2[k]? = some q → q.1 < H.size ∧ ¬ va_A W1 H.size q.1 := by
    intro k q hq
    have hl := (h.2.1 k q hq).lt
    refine ⟨hl, fun g => ?_⟩
    rcases g with ⟨j, e, g⟩ | g
    · exact h.2.2.2.2 j k (q.1, e) q g hq rfl
    · omega
  refine ⟨hP, fun k q hq => ?_, hD.weaken (fun k q _ g => ?_), h.2.2.2.1, fun i j p q a b e => ?_⟩
  · exact (h.2.1 k q hq).kept (hk q.1 (apart k q hq).1 (apart k q hq).2)
  · rcases g with ⟨j, e, g⟩ | g
    · exact h.2.2.1.2 j (q.1, e) g
    · exact hA _ g
  · exact (apart j q b).2 (by rw [← e]; exact hD.2 i p a)
theorem lgood {ws : List Cond} (h : ∀ w ∈ ws, w ∈ xgood) : GoodIn lw_tbl ws := fun w hw => ⟨(List.mem_filter.mp (h w hw)).1, good_of_word (List.mem_filter.mp (h w hw)).2⟩
theorem lroom {d : Nat} {b1 : Nat × Nat} {mx : Nat} (h1 : Nat.ble d 1200 = true) (h3 : Nat.ble mx 40 = true) : (xrm d b1).frames + 1 ≤ room_1.frames ∧ 8 + (mx + 11) + (xrm d b1).locals ≤ room_1.locals := by
  have := Nat.le_of_ble_eq_true h3
  have := Nat.le_of_ble_eq_true h1
  simp only [xrm, room_1]
  omega
/-- a call out of the law: one world goes in, the other stays -/
theorem lrun {p : Program} {l : Launch} {e : Env} {s : State} {m : MethodId} {below : List Frame} {meth : Method} {c : Code} {b : Nat} {D : va_G} {E : Nat → ClassId} {H : Heap} {locs : List Loc} {cells slots pc : Nat} {ls : Array Slot} {ads : Nat → Nat} {S : XS} {im : XI} {W2 : va_W} {b1 : Nat × Nat} {st st0 : List Value} {P : Option Value → XS → XI → Prop} {Q : State → Prop} {a : Array Value}
    (hW : L2 D (LA s) (xw E ads S im) W2 H) (hS : va_S (LA s) s.heap H locs)
    (hr : va_Run p l e room_1 s m #[Value.ref b] below meth c H locs cells slots b1.1 b1.2 (F0 m pc ls st0) st (XQ D E (va_A (xw E ads S im) H.size) ads S.1.length P a) (va_A (xw E ads S im) H.size))
    (kk : ∀ (r : Option Value) (S' : XS) (im' : XI) (H1 : Heap) (locs1 : List Loc), P r S' im' → L2 D (LA s) (xw E ads S' im') W2 H1 → H1.size + S.1.length = H.size + S'.1.length → va_S (LA s) s.heap H1 locs1 → W p l e room_1 s m #[Value.ref b] below meth c H1 locs1 (cells + b1.1) (slots + b1.2) Q (F0 m (pc + 3) ls ((r.map (conc ads)).toList ++ st))) :
    W p l e room_1 s m #[Value.ref b] below meth c H locs cells slots Q (F0 m pc ls st0) := by
  have hAc : ∀ q : Nat, va_A (xw E ads S im) H.size q → LA s q := by
    intro q g
    rcases g with ⟨j, e, g⟩ | g
    · exact hW.2.2.1.2 j (q, e) g
    · exact Nat.le_trans hS.1 g
  intro T hT X
  obtain ⟨v, st₀, t, T', Lc, h0, X', hL, e1, e2, ⟨⟨r, S', im', hv, hp, hPP, hDD, hz⟩, hz2, hk⟩, sto⟩ := hr T hT X
  cases hv
  rw [h0] at hz hz2 hk
  obtain ⟨t2, a1, b1'⟩ := kk r S' im' T'.heap (locs ++ Lc) hp (by rw [e1]; exact hW.step (fun q hq => Nat.le_trans hS.1 hq) hk hPP hDD) (by rw [e1]; exact hz)
    ⟨Nat.le_trans hS.1 (by rw [e1]; exact hz2), fun q h1 h2 => by rw [e1, hk q (Nat.lt_of_lt_of_le h1 hS.1) (fun g => h2 (hAc q g))]; exact hS.2.1 q h1 h2, fun q hq => by
      rcases List.mem_append.mp hq with h | h
      · exact hS.2.2 q h
      · exact hAc _ (hL q h)⟩ T' rfl X'
  exact ⟨t2, sto t2 a1, b1'⟩
theorem lstart {s U : State} {D : va_G} {E : Nat → ClassId} {H : Heap} {locs : List Loc} {ads : Nat → Nat} {S : XS} {im : XI} {W2 : va_W} {b1 : Nat × Nat} {vs : List Value} (hK : va_K D vwCl (xtys E) s) (hN : XN s) (hT : XT ads (LA s) s s.heap) (hW : L2 D (LA s) (xw E ads S im) W2 H) (hS : va_S (LA s) s.heap H locs) (hads : ∀ i, i < b1.1 → ads (S.1.length + i) = H.size + i) (hU : U.heap = H) (hV : s.WarmedH U.vm) :
    XP D E (va_A (xw E ads S im) H.size) ads H.size b1 S im vs (vs.map (conc ads)).toArray U := by
  subst hU
  have hAc : ∀ q : Nat, va_A (xw E ads S im) U.heap.size q → LA s q := by
    intro q g
    rcases g with ⟨j, e, g⟩ | g
    · exact hW.2.2.1.2 j (q, e) g
    · exact Nat.le_trans hS.1 g
  have t := XT.go hT hV.alike (fun a h1 h2 => hS.2.1 a h1 h2)
  exact ⟨rfl, rfl, va_K.moved hV.alike hK, XN.warm hV hN, ⟨t.1.narrow hAc, t.2.1.narrow hAc, t.2.2.1.narrow hAc, t.2.2.2.narrow hAc⟩, hW.1, hW.2.2.1.self, hads⟩
theorem lcall {p : Program} {l : Launch} {e : Env} {s : State} {m : MethodId} {below : List Frame} {meth : Method} {c : Code} {b Ln : Nat} {xs : Nat → Int32} {D : va_G} {E : Nat → ClassId} {H : Heap} {locs : List Loc} {cells slots pc : Nat} {ls : Array Slot} {ads : Nat → Nat} {S : XS} {im : XI} {W2 : va_W} {b1 : Nat × Nat} {st As : List Value} {P : Option Value → XS → XI → Prop} {Q : State → Prop} {M2 : XM} {idx n d ci N : Nat} {T : u_T}
    (hAt : lw_At p s m meth c b Ln xs) (hK : va_K D vwCl (xtys E) s) (hN : XN s) (hT : XT ads (LA s) s s.heap) (hW : L2 D (LA s) (xw E ads S im) W2 H) (hS : va_S (LA s) s.heap H locs)
    (hv : XV M2 n) (hlk : Cond.methodLink R_law idx M2.1 ∈ xgood) (hin : Cond.instanceMethod M2.1 ∈ xgood ∧ Cond.selects M2.1.cls M2.1 M2.1 ∈ xgood) (hc : vwCl[ci]? = some (M2.1.cls, T, N)) (hsh : S.1[0]? = some (.inl ci)) (hn2 : As.length = n) (hst : Nat.ble (st.map fun v => v.category).sum 8 = true) (hd : decode code pc = .ok (.invokevirtual idx, 3)) (hdp : Nat.ble d 1200 = true) (hcon : ∀ ads : Nat → Nat, As.map (conc ads) = As)
    (hads : ∀ i, i < b1.1 → ads (S.1.length + i) = H.size + i) (hf1 : cells + b1.1 ≤ 600000) (hf2 : slots + b1.2 ≤ 7302250) (hls : ls.size = 4)
    (hsp : Spec M2 d b1 (.ref 0 :: As) S im P)
    (kk : ∀ (r : Option Value) (S' : XS) (im' : XI) (H1 : Heap) (locs1 : List Loc), P r S' im' → L2 D (LA s) (xw E ads S' im') W2 H1 → H1.size + S.1.length = H.size + S'.1.length → va_S (LA s) s.heap H1 locs1 → W p l e room_1 s m #[Value.ref b] below meth c H1 locs1 (cells + b1.1) (slots + b1.2) Q (F0 m (pc + 3) ls ((r.map (conc ads)).toList ++ st))) :
    W p l e room_1 s m #[Value.ref b] below meth c H locs cells slots Q (F0 m pc ls (As.reverse ++ .ref (ads 0) :: st)) := by
  obtain ⟨hx, hb, -, hml, hown, hts, -⟩ := hAt
  have hM := hsp l D E (va_A (xw E ads S im) H.size) ads H.size (fun q hq => Or.inr hq)
  have hcell := va_recv (D := D) hK hW.1 hc (xw_get hsh)
  have hpre : PreV s H M2.1.cls (ads 0) (XP D E (va_A (xw E ads S im) H.size) ads H.size b1 S im (.ref 0 :: As)) As := ⟨XP.blind, hcell, fun U hU hV => by
    have := lstart (vs := .ref 0 :: As) hK hN hT hW hS hads hU hV
    rw [List.map_cons, hcon ads] at this
    exact this⟩
  have hG : GoodIn lw_tbl (wsV R_law idx M2.1.cls M2.1 (xws M2)) := lgood (by
      intro w hw
      simp only [wsV, List.mem_append, List.mem_cons, List.not_mem_nil, or_false, xws] at hw
      rcases hw with (rfl | rfl | rfl | rfl) | (rfl | hw)
      · exact hlk
      · exact hin.1
      · exact hin.2
      · exact hv.2.1
      · exact hv.1
      · exact hw)
  have hcats : 2 * 0 + (st.map fun v => v.category).sum ≤ 8 := by
    have := Nat.le_of_ble_eq_true hst
    omega
  exact lrun hW hS (va_runV (As := As) (rest := st) ⟨hx, hb, hml, hown, hts⟩ hM (cwV n hts hG rfl rfl rfl ⟨rfl, hv.2.2.1⟩ (lroom hdp hv.2.2.2)) hpre rfl hn2 hls rfl hcats hd ⟨hf1, hf2⟩) kk
theorem lmake {p : Program} {l : Launch} {e : Env} {s : State} {m : MethodId} {below : List Frame} {meth : Method} {c : Code} {b Ln : Nat} {xs : Nat → Int32} {D : va_G} {E : Nat → ClassId} {H : Heap} {locs : List Loc} {cells slots pc : Nat} {ls : Array Slot} {ads : Nat → Nat} {S : XS} {im : XI} {W2 : va_W} {b1 : Nat × Nat} {st : List Value} {P : Option Value → XS → XI → Prop} {Q : State → Prop} {M2 : XM} {idx d : Nat}
    (hAt : lw_At p s m meth c b Ln xs) (hK : va_K D vwCl (xtys E) s) (hN : XN s) (hT : XT ads (LA s) s s.heap) (hW : L2 D (LA s) (xw E ads S im) W2 H) (hS : va_S (LA s) s.heap H locs)
    (hv : XV M2 0) (hlk : Cond.methodLink R_law idx M2.1 ∈ xgood) (hin : Cond.instanceMethod M2.1 ∈ xgood) (hy : M2.1.name = "<init>") (hret : M2.2.2.2 = none) (hst : Nat.ble (st.map fun v => v.category).sum 8 = true) (hd : decode code pc = .ok (.invokespecial idx, 3)) (hdp : Nat.ble d 1200 = true)
    (hads : ∀ i, i < b1.1 → ads (S.1.length + i) = H.size + i) (hf1 : cells + b1.1 ≤ 600000) (hf2 : slots + b1.2 ≤ 7302250) (hls : ls.size = 4)
    (hsp : Spec M2 d b1 [.ref 0] S im P)
    (kk : ∀ (r : Option Value) (S' : XS) (im' : XI) (H1 : Heap) (locs1 : List Loc), P r S' im' → L2 D (LA s) (xw E ads S' im') W2 H1 → H1.size + S.1.length = H.size + S'.1.length → va_S (LA s) s.heap H1 locs1 → W p l e room_1 s m #[Value.ref b] below meth c H1 locs1 (cells + b1.1) (slots + b1.2) Q (F0 m (pc + 3) ls ((r.map (conc ads)).toList ++ st))) :
    W p l e room_1 s m #[Value.ref b] below meth c H locs cells slots Q (F0 m pc ls (.ref (ads 0) :: st)) := by
  obtain ⟨hx, hb, -, hml, hown, hts, -⟩ := hAt
  have hM := hsp l D E (va_A (xw E ads S im) H.size) ads H.size (fun q hq => Or.inr hq)
  have hpre : PreS s H (XP D E (va_A (xw E ads S im) H.size) ads H.size b1 S im [.ref 0]) [.ref (ads 0)] := ⟨XP.blind, fun U hU hV => lstart (vs := [.ref 0]) hK hN hT hW hS hads hU hV⟩
  have hG : GoodIn lw_tbl (xws M2) := lgood (by
      intro w hw
      rcases List.mem_cons.mp hw with rfl | hw
      · exact hv.1
      · exact hw)
  have hw2 : xws M2 = Cond.code M2.1 M2.2.1 M2.2.2.1 none :: xgood := by unfold xws; rw [hret]
  have hw : ∀ w, w ∈ xgood → w.before #[Value.ref b] s = true := fun w h => hts w (List.mem_filter.mp h).1
  have hcats : 2 * 0 + (st.map fun v => v.category).sum ≤ 8 := by
    have := Nat.le_of_ble_eq_true hst
    omega
  exact lrun hW hS (va_runI (As := []) (rest := st) ⟨hx, hb, hml, hown, hts⟩ hM (cwI 0 hts hG hw2 rfl rfl (hw _ hv.2.1) (hw _ hlk) (hw _ hin) hy hv.2.2.1 (lroom hdp hv.2.2.2)) hpre rfl rfl hls rfl hcats hd ⟨hf1, hf2⟩) kk
theorem lnew {p : Program} {l : Launch} {e : Env} {s : State} {m : MethodId} {below : List Frame} {meth : Method} {c : Code} {b Ln : Nat} {xs : Nat → Int32} {D : va_G} {E : Nat → ClassId} {H : Heap} {locs : List Loc} {cells slots pc : Nat} {ls : Array Slot} {ads : Nat → Nat} {S : XS} {im : XI} {W2 : va_W} {st : List Value} {Q : State → Prop} {idx ci N : Nat} {CC : String} {T : u_T}
    (hAt : lw_At p s m meth c b Ln xs) (hK : va_K D vwCl (xtys E) s) (hW : L2 D (LA s) (xw E ads S im) W2 H) (hS : va_S (LA s) s.heap H locs)
    (hc : vwCl[ci]? = some (CC, T, N)) (hn : Cond.classLink R_law idx CC ∈ xgood ∧ Cond.instantiable CC N ∈ xgood ∧ Cond.initialized CC ∈ xgood) (hd : decode code pc = .ok (.new idx, 3)) (hads : ads S.1.length = H.size) (hf1 : cells + 1 ≤ 600000) (hf2 : slots + N ≤ 7302250)
    (kk : ∀ (H1 : Heap), L2 D (LA s) (xw E ads (xpush S (.inl ci)) (xz im S.1.length)) W2 H1 → H1.size = H.size + 1 → va_S (LA s) s.heap H1 locs → W p l e room_1 s m #[Value.ref b] below meth c H1 locs (cells + 1) (slots + N) Q (F0 m (pc + 3) ls (.ref H.size :: st))) :
    W p l e room_1 s m #[Value.ref b] below meth c H locs cells slots Q (F0 m pc ls st) := by
  obtain ⟨hx, hb, -, hml, hown, hts, -⟩ := hAt
  have hw : ∀ w, w ∈ xgood → w.before #[Value.ref b] s = true := fun w h => hts w (List.mem_filter.mp h).1
  obtain ⟨hin0, ty0, hty0, hnm, hdef⟩ := xcl hc
  have hin : ∀ w ∈ u_ws CC T N, w ∈ lw_tbl := fun w h => (List.mem_filter.mp (hin0 w h)).1
  have hKn := hK.1 ci _ hc
  have hxn := xnf_of hc
  refine W.newcK hx hb hown (hw _ hn.1) (hw _ hn.2.1) (hw _ hn.2.2) rfl hd hf1 hf2 hKn.2.1 rfl fun H1 kC hkC e1 z1 o1 => ?_
  have hk : ∀ (k : Nat) (x : Nat × va_E), (xw E ads S im)[k]? = some x → H1[x.1]? = H[x.1]? := fun k x hx => o1 x.1 ((hW.1 k x hx).lt)
  have hP1 : va_P D vwCl (xw E ads S im ++ [(ads S.1.length, xcell E ads (fun _ => none) (fun _ => 0) (.inl ci))]) H1 := by
    refine (hW.1.kept hk).app (fun k x hx' => ?_)
    have hz : k < 1 := (List.getElem?_eq_some_iff.mp hx').1
    rw [show k = 0 by omega] at hx'
    cases hx'
    show va_at D vwCl (ads S.1.length, .inr (ci, xfs ads ci (fun _ => none) (fun _ => 0))) H1
    rw [hads]
    refine ⟨_, hc, (u_born ty0 hts hin hKn hkC e1 hty0).to (fun j hj => ?_)⟩
    rw [hdef j hj]
    have hg := xfs_get (ads := ads) (ci := ci) (j := j) (rm := fun _ => none) (im := fun _ => 0) (by rw [hxn]; exact hj)
    simp only [vp_V, List.getD_eq_getElem?_getD, hg, Option.getD_some, xfv, Option.map_none, va_rf]
  have hD1 := (hW.2.2.1.self (sz := H.size)).push (e := xcell E ads (fun _ => none) (fun _ => 0) (.inl ci)) hW.1 hads (by rw [hads]; exact Or.inr (Nat.le_refl _))
  rw [← xw_push] at hP1 hD1
  exact kk H1 (hW.step (fun q hq => Nat.le_trans hS.1 hq) (fun q h1 _ => o1 q h1) hP1 hD1) z1 ⟨Nat.le_trans hS.1 (by omega), fun x h1 h2 => (o1 x (Nat.lt_of_lt_of_le h1 hS.1)).trans (hS.2.1 x h1 h2), hS.2.2⟩

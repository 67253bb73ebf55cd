section LVS
variable {Ln : Nat} {xs : Nat → Int32} {bud : Nat × Nat} {pc : Nat} {L : List (Option Value)} {st : List Value} {S1 : XS} {i1 i2 : XI}
theorem push00 {k : XK} : xpush ([], w00) k = ([k], w00) := by
  refine Prod.ext rfl ?_
  funext a j
  show (if a = 0 then none else w00 a j) = w00 a j
  split <;> rfl
theorem xz00 {im : XI} : ∀ j, xz im 0 0 j = 0 := fun j => if_pos rfl
theorem LV.new1 {bud' : Nat × Nat} {idx ci N : Nat} {CC : String} {T : u_T} (hc : vwCl[ci]? = some (CC, T, N)) (hn : Cond.classLink R_law idx CC ∈ xgood ∧ Cond.instantiable CC N ∈ xgood ∧ Cond.initialized CC ∈ xgood) (hd : decode code pc = .ok (.new idx, 3)) (hbud : 1 + bud'.1 ≤ bud.1 ∧ N + bud'.2 ≤ bud.2)
    (k : ∀ i1' : XI, (∀ j, i1' 0 j = 0) → LV Ln xs bud' (pc + 3) L (.ref 1 :: st) ([.inl ci], w00) i1' ([], w00) i2) : LV Ln xs bud pc L st ([], w00) i1 ([], w00) i2 := by
  intro p l e s m below meth c b D E ka na H locs cells slots ls C hW hS hz hb1 hb2 hl
  refine lnew C.1 C.2.1 hW hS hc hn hd hz.symm (by omega) (by omega) (fun H1 h1 h2 h3 => ?_)
  have eH : H.size = s.heap.size := hz
  rw [push00] at h1
  rw [eH]
  exact k _ xz00 p l e s m below meth c b D E ka na H1 locs (cells + 1) (slots + N) ls C h1 h3 (by rw [h2, eH]; rfl) (by omega) (by omega) hl
theorem LV.new2 {bud' : Nat × Nat} {idx ci N : Nat} {CC : String} {T : u_T} (hlen : S1.1.length = 50) (hc : vwCl[ci]? = some (CC, T, N)) (hn : Cond.classLink R_law idx CC ∈ xgood ∧ Cond.instantiable CC N ∈ xgood ∧ Cond.initialized CC ∈ xgood) (hd : decode code pc = .ok (.new idx, 3)) (hbud : 1 + bud'.1 ≤ bud.1 ∧ N + bud'.2 ≤ bud.2)
    (k : ∀ i2' : XI, (∀ j, i2' 0 j = 0) → LV Ln xs bud' (pc + 3) L (.ref 2 :: st) S1 i1 ([.inl ci], w00) i2') : LV Ln xs bud pc L st S1 i1 ([], w00) i2 := by
  intro p l e s m below meth c b D E ka na H locs cells slots ls C hW hS hz hb1 hb2 hl
  have eH : H.size = s.heap.size + 50 := by rw [hz, hlen]; rfl
  refine lnew C.1 C.2.1 hW.sw hS hc hn hd eH.symm (by omega) (by omega) (fun H1 h1 h2 h3 => ?_)
  rw [push00] at h1
  rw [eH]
  exact k _ xz00 p l e s m below meth c b D E ka na H1 locs (cells + 1) (slots + N) ls C h1.sw h3 (by rw [h2, eH, hlen]; rfl) (by omega) (by omega) hl
theorem LV.make1 {bud' b1 : Nat × Nat} {P : XS → XI → Prop} {M2 : XM} {idx d ci : Nat} (hL4 : L.length = 4) (hv : XV M2 0) (hlk : Cond.methodLink R_law idx M2.1 ∈ xgood) (hin : Cond.instanceMethod M2.1 ∈ xgood) (hy : M2.1.name = "<init>") (hret : M2.2.2.2 = none) (hst : Nat.ble (st.map fun v => v.category).sum 8 = true) (hd : decode code pc = .ok (.invokespecial idx, 3)) (hdp : Nat.ble d 1200 = true)
    (hb1 : b1.1 ≤ 49) (hbud : b1.1 + bud'.1 ≤ bud.1 ∧ b1.2 + bud'.2 ≤ bud.2) (hsp : SpC M2 d b1 [.ref 0] ([.inl ci], w00) i1 P)
    (k : ∀ S' im', P S' im' → LV Ln xs bud' (pc + 3) L st S' im' ([], w00) i2) : LV Ln xs bud pc L (.ref 1 :: st) ([.inl ci], w00) i1 ([], w00) i2 := by
  intro p l e s m below meth c b D E ka na H locs cells slots ls C hW hS hz hc1 hc2 hl
  have e0 : H.size = s.heap.size + 1 := hz
  refine lmake C.1 C.2.1 C.2.2.1 C.2.2.2.1 hW hS hv hlk hin hy hret (by rw [conc_cats]; exact hst) hd hdp (fun i hi => ?_) (by omega) (by omega) (hl.1.trans hL4) hsp (fun r S' im' H1 locs1 hp h2 h3 h4 => ?_)
  · rw [e0]
    show LA1 s.heap.size ka na (1 + i) = _
    unfold LA1
    rw [if_pos (by omega)]
    omega
  · obtain ⟨rfl, hp⟩ := hp
    have e1 : H1.size + 1 = H.size + S'.1.length := h3
    exact k S' im' hp p l e s m below meth c b D E ka na H1 locs1 (cells + b1.1) (slots + b1.2) ls C h2 h4 (by show H1.size = s.heap.size + S'.1.length + 0; omega) (by omega) (by omega) hl
theorem LV.make2 {bud' b1 : Nat × Nat} {P : XS → XI → Prop} {M2 : XM} {idx d ci : Nat} (hlen : S1.1.length = 50) (hL4 : L.length = 4) (hv : XV M2 0) (hlk : Cond.methodLink R_law idx M2.1 ∈ xgood) (hin : Cond.instanceMethod M2.1 ∈ xgood) (hy : M2.1.name = "<init>") (hret : M2.2.2.2 = none) (hst : Nat.ble (st.map fun v => v.category).sum 8 = true) (hd : decode code pc = .ok (.invokespecial idx, 3)) (hdp : Nat.ble d 1200 = true)
    (hb1 : b1.1 ≤ 12) (hbud : b1.1 + bud'.1 ≤ bud.1 ∧ b1.2 + bud'.2 ≤ bud.2) (hsp : SpC M2 d b1 [.ref 0] ([.inl ci], w00) i2 P)
    (k : ∀ S' im', P S' im' → LV Ln xs bud' (pc + 3) L st S1 i1 S' im') : LV Ln xs bud pc L (.ref 2 :: st) S1 i1 ([.inl ci], w00) i2 := by
  intro p l e s m below meth c b D E ka na H locs cells slots ls C hW hS hz hc1 hc2 hl
  have e0 : H.size = s.heap.size + 51 := by rw [hz, hlen]; rfl
  refine lmake C.1 C.2.1 C.2.2.1 C.2.2.2.2 hW.sw hS hv hlk hin hy hret (by rw [conc_cats]; exact hst) hd hdp (fun i hi => ?_) (by omega) (by omega) (hl.1.trans hL4) hsp (fun r S' im' H1 locs1 hp h2 h3 h4 => ?_)
  · rw [e0]
    show LA2 s.heap.size ka na (1 + i) = _
    unfold LA2
    rw [if_pos (by omega)]
    omega
  · obtain ⟨rfl, hp⟩ := hp
    have e1 : H1.size + 1 = H.size + S'.1.length := h3
    exact k S' im' hp p l e s m below meth c b D E ka na H1 locs1 (cells + b1.1) (slots + b1.2) ls C h2.sw h4 (by rw [hlen]; omega) (by omega) (by omega) hl
end LVS
theorem REL_00 {ic im ic0 im0 : XI} (hc : ic = wI 0 ic0 50 (isF (fun _ _ => 0) 1 2)) (hm : im = wI 0 im0 13 (xup (fun _ _ => 0) 1 1 1)) : REL false 0 ic im := by
  obtain ⟨r1, r2, r3, r4, r5⟩ := RI_00 hc
  have e : ∀ a j, a < 13 → im a j = xup (fun _ _ => 0) 1 1 1 a j := by
    intro a j ha
    rw [hm, wI_in (by omega) (by omega), Nat.sub_zero]
  have e0 : ∀ a j, a < 13 → a ≠ 1 → im a j = 0 := by
    intro a j ha h1
    rw [e a j ha]
    exact if_neg (fun h => h1 h.1)
  have e1 : im 1 = s00 := by
    funext j
    rw [e 1 j (by omega)]
    show (if (1 = 1 ∧ j = 1) then (1 : Int32) else 0) = upd (fun _ => 0) 1 1 j
    by_cases h : j = 1
    · subst h; rw [upd_at]; rfl
    · rw [upd_ne h, if_neg (fun g => h g.2)]
  have z : ∀ a, a < 13 → a ≠ 1 → im a = fun _ => 0 := fun a h1 h2 => funext fun j => e0 a j h1 h2
  refine ⟨⟨by rw [e1]; exact ⟨0, 0, Iv_00⟩, by rw [e1]; exact r1⟩, fun k _ _ => by rw [e0 4 k (by omega) (by omega), r3], ⟨0, by omega, by rw [e0 0 12 (by omega) (by omega)]; rfl, by rw [r4]; rfl, fun k hk => absurd hk (Nat.not_lt_zero k)⟩, ⟨?_, ?_⟩, ⟨0, Nat.le_refl 0, by rw [e0 0 3 (by omega) (by omega)]; rfl, by rw [r5]; rfl, fun h => (by cases h), fun _ => rfl⟩, fun h => (by cases h)⟩
  · rw [z 9 (by omega) (by omega), z 10 (by omega) (by omega)]
    exact fun z hz => ⟨(show okBits 0 by decide), 0, by omega, rfl⟩
  · rw [z 9 (by omega) (by omega), z 10 (by omega) (by omega), z 11 (by omega) (by omega)]
    exact r2
theorem l_start {Ln : Nat} {xs : Nat → Int32} {i1 i2 : XI} (hL : Ln ≤ 3072) : LV Ln xs (90, 2466) 0 [some (.ref 0), none, none, none] [] ([], w00) i1 ([], w00) i2 := by
  refine LV.new1 (bud' := (89, 2458)) (ci := 9) (T := TX9) (N := 8) rfl nL_7 dL_law_0 ⟨by decide, by decide⟩ (fun ia ha => ?_)
  refine LV.dup dL_law_3 rfl ?_
  refine LV.make1 (bud' := (40, 1723)) (b1 := (49, 735)) (d := 1000) rfl vX9_init kL_9 wX9_init rfl rfl rfl dL_law_4 rfl (by decide) ⟨by decide, by decide⟩ (new_C (d := 996) ha) (fun S' ic hc => ?_)
  obtain ⟨rfl, hc⟩ := hc
  refine LV.astore_n dL_law_7 rfl rfl rfl ?_
  refine LV.new2 (bud' := (39, 1703)) (ci := 10) (T := TX10) (N := 20) rfl rfl nL_10 dL_law_8 ⟨by decide, by decide⟩ (fun ib hb => ?_)
  refine LV.dup dL_law_11 rfl ?_
  refine LV.make2 (bud' := (27, 404)) (b1 := (12, 1299)) (d := 1000) rfl rfl vX10_init kL_12 wX10_init rfl rfl rfl dL_law_12 rfl (by decide) ⟨by decide, by decide⟩ (new_M (d := 999) hb) (fun S' im hm => ?_)
  obtain ⟨rfl, hm⟩ := hm
  refine LV.astore_n dL_law_15 rfl rfl rfl ?_
  refine LV.iconst (v := nI 0) dL_law_16 rfl ?_
  refine LV.istore_n dL_law_17 rfl rfl rfl ?_
  exact l_loop hL (Ln + 1) 0 0 false ic im (by omega) (by omega) (Nat.le_refl 0) (REL_00 hc hm)
/-- from the entry, for every script of at most 3072 ints, the law comes to its end with true -/
theorem whole_start {p : Program} {e : Env} {s : State} {m : MethodId} {below : List Frame} {meth : Method} {c : Code} (l : Launch) (hflags : l.flags = flags0) {b L : Nat} {xs : Nat → Int32} (hL : L ≤ 3072) (C0 : lw_At p s m meth c b L xs) : W p l e room_1 s m #[Value.ref b] below meth c s.heap [] 0 0 (lw_Z below #[Value.ref b] s) (entryFrame m ([Value.ref b] : List Value).toArray 4) := by
  obtain ⟨D, E, ka, na, C⟩ := xboot C0
  have hl := lv_entry ([.ref b]) (n := 4) (Nat.le_of_ble_eq_true rfl)
  rw [lg_entry_eq]
  refine l_start (i1 := fun _ _ => 0) (i2 := fun _ _ => 0) hL p l e s m below meth c b D E ka na s.heap [] 0 0 _ C ⟨fun k q h => by simp [xw] at h, fun k q h => by simp [xw] at h, ⟨fun i j p q h => by simp [xw] at h, fun k q h => by simp [xw] at h⟩, ⟨fun i j p q h => by simp [xw] at h, fun k q h => by simp [xw] at h⟩, fun i j p q h => by simp [xw] at h⟩ va_S.rf rfl (by decide) (by decide) ⟨hl.1, hl.2.1, fun i v hv => ?_⟩
  match i, hv with
  | 0, hv => cases hv; exact hl.2.2 (0, .ref b) (by simp [lv_args])
  | 1, hv => cases hv
  | 2, hv => cases hv
  | 3, hv => cases hv
  | i + 4, hv => simp at hv

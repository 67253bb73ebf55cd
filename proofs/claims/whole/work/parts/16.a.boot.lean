-- ===== the law's start: classes, arrays, tables =====
theorem xarr_i {s : State} {a : Array Value} (h : (Cond.arrayClass .int).before a s = true) : ∃ c : ClassId, ArrOfT s c .int ∧ va_RA s c .int := by
  obtain ⟨cA, kA, comp, h1, h2, h3⟩ := Cond.arrayClass_spec h
  exact ⟨cA, fun n z => ⟨fun k h => (by cases h), kA, h2, comp, h3⟩, h1⟩
theorem xarr_o {C : String} {s : State} {a : Array Value} (h : (Cond.arrayOver (.object C)).before a s = true) : ∃ c : ClassId, ArrOfT s c (.object C) ∧ va_RA s c (.object C) := by
  obtain ⟨comp, cA, kA, h1, h2, h3, h4, h5⟩ := Cond.arrayOver_spec h
  exact ⟨cA, fun n z => ⟨fun k h => (by cases h), kA, h3, comp, h4⟩, kA, comp, h3, h4, h1, h5⟩
theorem xtb {w : Cond} (i : Nat) (h : tables_1[i]? = some w) : w ∈ lw_tbl := List.mem_append_right _ (List.mem_of_getElem? h)
theorem xall {q : vw_C} {ci : Nat} (h : vwCl[ci]? = some q) : ∀ w ∈ u_ws q.1 q.2.1 q.2.2, w ∈ xgood := (xcl (C := q.1) (T := q.2.1) (N := q.2.2) h).1
theorem xins {q : vw_C} {ci : Nat} (h : vwCl[ci]? = some q) : Cond.instantiable q.1 q.2.2 ∈ xgood := by
  match ci, h with
  | 0, h => cases h; exact iL_0
  | 1, h => cases h; exact iL_1
  | 2, h => cases h; exact iL_2
  | 3, h => cases h; exact iL_3
  | 4, h => cases h; exact iL_4
  | 5, h => cases h; exact iL_5
  | 6, h => cases h; exact iL_6
  | 7, h => cases h; exact iL_7
  | 8, h => cases h; exact iL_8
  | 9, h => cases h; exact iL_9
  | 10, h => cases h; exact iL_10
  | k + 11, h => exact absurd (List.getElem?_eq_some_iff.mp h).1 (by show ¬ k + 11 < 11; omega)
theorem xboot_K {s : State} {a : Array Value} (hts : ∀ w ∈ lw_tbl, w.before a s = true) : ∃ (D : va_G) (E : Nat → ClassId), va_K D vwCl (xtys E) s := by
  have hx : ∀ w ∈ xgood, w.before a s = true := fun w h => hts w (List.mem_filter.mp h).1
  have h1 : ∀ c : Nat, ∃ (cC : ClassId) (iS : Nat → Nat), ∀ q : vw_C, vwCl[c]? = some q → u_Kn s q.1 q.2.1 q.2.2 cC iS := by
    intro c
    cases hq : vwCl[c]? with
    | none => exact ⟨0, fun _ => 0, fun q h => by cases h⟩
    | some q =>
      obtain ⟨cC, iS, hK⟩ := u_known (C := q.1) (T := q.2.1) (N := q.2.2) (n := q.2.2) hx (xall hq) (hx _ (xins hq))
      exact ⟨cC, iS, fun q' h => by cases h; exact hK⟩
  obtain ⟨e0, a0⟩ := xarr_i (hts _ (xtb (w := .arrayClass .int) 55 (by decide +kernel)))
  obtain ⟨e1, a1⟩ := xarr_o (C := RX4) (hts _ (xtb (w := .arrayOver (.object RX4)) 30 (by decide +kernel)))
  obtain ⟨e2, a2⟩ := xarr_o (C := RX0) (hts _ (xtb (w := .arrayOver (.object RX0)) 32 (by decide +kernel)))
  obtain ⟨e3, a3⟩ := xarr_o (C := RX7) (hts _ (xtb (w := .arrayOver (.object RX7)) 241 (by decide +kernel)))
  refine ⟨(fun c => Classical.choose (h1 c), fun c => Classical.choose (Classical.choose_spec (h1 c))), fun k => match k with | 0 => e0 | 1 => e1 | 2 => e2 | _ => e3, fun c q hq => Classical.choose_spec (Classical.choose_spec (h1 c)) q hq, fun k q hq => ?_⟩
  match k, hq with
  | 0, hq => cases hq; exact a0
  | 1, hq => cases hq; exact a1
  | 2, hq => cases hq; exact a2
  | 3, hq => cases hq; exact a3
  | k + 4, hq => exact absurd (List.getElem?_eq_some_iff.mp hq).1 (by show ¬ k + 4 < 4; omega)
theorem xboot_N {s : State} {a : Array Value} (hts : ∀ w ∈ lw_tbl, w.before a s = true) : XN s := by
  refine ⟨fun w hw => ?_, va_AO.of (hts _ (xtb (w := .arrayOver (.object RX4)) 30 (by decide +kernel))), va_AO.of (hts _ (xtb (w := .arrayOver (.object RX0)) 32 (by decide +kernel))), va_AO.of (hts _ (xtb (w := .arrayOver (.object RX7)) 241 (by decide +kernel)))⟩
  have h1 := hts w (List.mem_append_right _ (List.mem_filter.mp hw).1)
  have hk := (List.mem_filter.mp hw).2
  cases w <;> first | exact va_Nw.of rfl h1 | (simp [xnestW] at hk)
theorem xboot_T {s : State} {b : Nat} (hts : ∀ w ∈ lw_tbl, w.before #[Value.ref b] s = true) (hgv : (Jvm.Cond.and given_1 narrow_1).before #[Value.ref b] s = true) : ∃ ka na : Nat, ∀ ads : Nat → Nat, ads xKA = ka → ads xNA = na → XT ads (LA s) s s.heap := by
  have hs := flat_of_before _ hgv
  have hA : ∀ a : Nat, a < s.heap.size → ¬ LA s a := fun a h => Nat.not_le.mpr h
  have hini : (Cond.initialized RX9).before #[Value.ref b] s = true := hts _ (List.mem_filter.mp nL_7.2.2).1
  obtain ⟨ka, k1, k2⟩ := va_Tof (tm := .static RX9 "KIND_ABOVE" "[I") (ty := .int) (N := 7) (f := fun j => .int (kab j)) (A := LA s) (by decide) (hs _ (by decide +kernel)) (va_eqt (hs _ (by decide +kernel))) (fun j hj => by
    match j, hj with
    | 0, _ => exact va_eqt (z := -1) (hs _ (by decide +kernel))
    | 1, _ => exact va_eqt (z := 0) (hs _ (by decide +kernel))
    | 2, _ => exact va_eqt (z := 0) (hs _ (by decide +kernel))
    | 3, _ => exact va_eqt (z := 0) (hs _ (by decide +kernel))
    | 4, _ => exact va_eqt (z := 1) (hs _ (by decide +kernel))
    | 5, _ => exact va_eqt (z := 2) (hs _ (by decide +kernel))
    | 6, _ => exact va_eqt (z := 0) (hs _ (by decide +kernel))
    | j + 7, h => exact absurd h (by omega)) hA
  obtain ⟨na, n1, n2⟩ := va_Tof (tm := .static RX9 "NAMES" "[C") (ty := .char) (N := 6) (f := fun j => .int (nms j)) (A := LA s) (by decide) (hs _ (by decide +kernel)) (va_eqt (hs _ (by decide +kernel))) (fun j hj => by
    match j, hj with
    | 0, _ => exact va_eqt (z := 114) (hs _ (by decide +kernel))
    | 1, _ => exact va_eqt (z := 115) (hs _ (by decide +kernel))
    | 2, _ => exact va_eqt (z := 116) (hs _ (by decide +kernel))
    | 3, _ => exact va_eqt (z := 112) (hs _ (by decide +kernel))
    | 4, _ => exact va_eqt (z := 111) (hs _ (by decide +kernel))
    | 5, _ => exact va_eqt (z := 108) (hs _ (by decide +kernel))
    | j + 6, h => exact absurd h (by omega)) hA
  refine ⟨ka, na, fun ads e1 e2 => ?_⟩
  unfold XT
  rw [e1, e2]
  exact ⟨va_Zref (hts _ (xtb (w := .laysStatic RX9 "KIND_ABOVE" "[I") 377 (by decide +kernel))) hini k1 hA, k2, va_Zref (hts _ (xtb (w := .laysStatic RX9 "NAMES" "[C") 503 (by decide +kernel))) hini n1 hA, n2⟩
theorem xboot {p : Program} {s : State} {m : MethodId} {meth : Method} {c : Code} {b Ln : Nat} {xs : Nat → Int32} (C0 : lw_At p s m meth c b Ln xs) : ∃ (D : va_G) (E : Nat → ClassId) (ka na : Nat), LX p s m meth c b Ln xs D E ka na := by
  obtain ⟨D, E, hK⟩ := xboot_K C0.2.2.2.2.2.1
  obtain ⟨ka, na, hT⟩ := xboot_T C0.2.2.2.2.2.1 C0.2.2.2.2.2.2.2.2.2
  exact ⟨D, E, ka, na, C0, hK, xboot_N C0.2.2.2.2.2.1, hT _ rfl rfl, hT _ rfl rfl⟩

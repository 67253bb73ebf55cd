theorem bitc : ∀ m : Fin 64, (((((((((nI m.1) - ((((nI m.1)).toUInt32 >>> (((1 : Int32)).toUInt32 &&& Int32.toUInt32 31)).toInt32 &&& (1431655765 : Int32))) &&& (858993459 : Int32)) + (((((nI m.1) - ((((nI m.1)).toUInt32 >>> (((1 : Int32)).toUInt32 &&& Int32.toUInt32 31)).toInt32 &&& (1431655765 : Int32)))).toUInt32 >>> (((2 : Int32)).toUInt32 &&& Int32.toUInt32 31)).toInt32 &&& (858993459 : Int32))) + ((((((nI m.1) - ((((nI m.1)).toUInt32 >>> (((1 : Int32)).toUInt32 &&& Int32.toUInt32 31)).toInt32 &&& (1431655765 : Int32))) &&& (858993459 : Int32)) + (((((nI m.1) - ((((nI m.1)).toUInt32 >>> (((1 : Int32)).toUInt32 &&& Int32.toUInt32 31)).toInt32 &&& (1431655765 : Int32)))).toUInt32 >>> (((2 : Int32)).toUInt32 &&& Int32.toUInt32 31)).toInt32 &&& (858993459 : Int32)))).toUInt32 >>> (((4 : Int32)).toUInt32 &&& Int32.toUInt32 31)).toInt32) &&& (252645135 : Int32)) + ((((((((nI m.1) - ((((nI m.1)).toUInt32 >>> (((1 : Int32)).toUInt32 &&& Int32.toUInt32 31)).toInt32 &&& (1431655765 : Int32))) &&& (858993459 : Int32)) + (((((nI m.1) - ((((nI m.1)).toUInt32 >>> (((1 : Int32)).toUInt32 &&& Int32.toUInt32 31)).toInt32 &&& (1431655765 : Int32)))).toUInt32 >>> (((2 : Int32)).toUInt32 &&& Int32.toUInt32 31)).toInt32 &&& (858993459 : Int32))) + ((((((nI m.1) - ((((nI m.1)).toUInt32 >>> (((1 : Int32)).toUInt32 &&& Int32.toUInt32 31)).toInt32 &&& (1431655765 : Int32))) &&& (858993459 : Int32)) + (((((nI m.1) - ((((nI m.1)).toUInt32 >>> (((1 : Int32)).toUInt32 &&& Int32.toUInt32 31)).toInt32 &&& (1431655765 : Int32)))).toUInt32 >>> (((2 : Int32)).toUInt32 &&& Int32.toUInt32 31)).toInt32 &&& (858993459 : Int32)))).toUInt32 >>> (((4 : Int32)).toUInt32 &&& Int32.toUInt32 31)).toInt32) &&& (252645135 : Int32))).toUInt32 >>> (((8 : Int32)).toUInt32 &&& Int32.toUInt32 31)).toInt32) + (((((((((nI m.1) - ((((nI m.1)).toUInt32 >>> (((1 : Int32)).toUInt32 &&& Int32.toUInt32 31)).toInt32 &&& (1431655765 : Int32))) &&& (858993459 : Int32)) + (((((nI m.1) - ((((nI m.1)).toUInt32 >>> (((1 : Int32)).toUInt32 &&& Int32.toUInt32 31)).toInt32 &&& (1431655765 : Int32)))).toUInt32 >>> (((2 : Int32)).toUInt32 &&& Int32.toUInt32 31)).toInt32 &&& (858993459 : Int32))) + ((((((nI m.1) - ((((nI m.1)).toUInt32 >>> (((1 : Int32)).toUInt32 &&& Int32.toUInt32 31)).toInt32 &&& (1431655765 : Int32))) &&& (858993459 : Int32)) + (((((nI m.1) - ((((nI m.1)).toUInt32 >>> (((1 : Int32)).toUInt32 &&& Int32.toUInt32 31)).toInt32 &&& (1431655765 : Int32)))).toUInt32 >>> (((2 : Int32)).toUInt32 &&& Int32.toUInt32 31)).toInt32 &&& (858993459 : Int32)))).toUInt32 >>> (((4 : Int32)).toUInt32 &&& Int32.toUInt32 31)).toInt32) &&& (252645135 : Int32)) + ((((((((nI m.1) - ((((nI m.1)).toUInt32 >>> (((1 : Int32)).toUInt32 &&& Int32.toUInt32 31)).toInt32 &&& (1431655765 : Int32))) &&& (858993459 : Int32)) + (((((nI m.1) - ((((nI m.1)).toUInt32 >>> (((1 : Int32)).toUInt32 &&& Int32.toUInt32 31)).toInt32 &&& (1431655765 : Int32)))).toUInt32 >>> (((2 : Int32)).toUInt32 &&& Int32.toUInt32 31)).toInt32 &&& (858993459 : Int32))) + ((((((nI m.1) - ((((nI m.1)).toUInt32 >>> (((1 : Int32)).toUInt32 &&& Int32.toUInt32 31)).toInt32 &&& (1431655765 : Int32))) &&& (858993459 : Int32)) + (((((nI m.1) - ((((nI m.1)).toUInt32 >>> (((1 : Int32)).toUInt32 &&& Int32.toUInt32 31)).toInt32 &&& (1431655765 : Int32)))).toUInt32 >>> (((2 : Int32)).toUInt32 &&& Int32.toUInt32 31)).toInt32 &&& (858993459 : Int32)))).toUInt32 >>> (((4 : Int32)).toUInt32 &&& Int32.toUInt32 31)).toInt32) &&& (252645135 : Int32))).toUInt32 >>> (((8 : Int32)).toUInt32 &&& Int32.toUInt32 31)).toInt32)).toUInt32 >>> (((16 : Int32)).toUInt32 &&& Int32.toUInt32 31)).toInt32) &&& (63 : Int32)) = many0 (nI m.1) 6 := by decide +kernel
theorem pJ6_bitCount_0f7a4 {d : Nat} {im : XI} {S : XS} {v : Int32} {n : Nat} (hv : v = nI n) (hn : n < 64) : SpI mJ6_bitCount_0f7a4 d [.int v] S im (fun x im' => x = many0 v 6 ∧ im = im') := by
  refine SpI.of [some (.int v)] rfl (by decide) rfl (fun Q hQ => ?_)
  subst hv
  refine bJ6_bitCount_0f7a4_0 ?_
  exact hQ _ _ ⟨bitc ⟨n, hn⟩, rfl⟩
theorem pX9_within {d : Nat} {im : XI} {S : XS} {v lo hi : Int32}  : SpI mX9_within d [.int v, .int lo, .int hi] S im (fun x im' => x = b2i (lo ≤ v ∧ v ≤ hi) ∧ im = im') := by
  refine SpI.of [some (.int v), some (.int lo), some (.int hi)] rfl (by decide) rfl (fun Q hQ => ?_)
  refine bX9_within_0 (fun c => ?_) (fun c => ?_)
  · refine bX9_within_14 ?_
    refine bX9_within_15 (Or.inl rfl) ?_
    exact hQ _ _ ⟨(b2i_f (fun h => by have := h.1; rw [i_le] at this; rw [i_lt] at c; omega)).symm, rfl⟩
  · refine bX9_within_5 (fun c2 => ?_) (fun c2 => ?_)
    · refine bX9_within_14 ?_
      refine bX9_within_15 (Or.inl rfl) ?_
      exact hQ _ _ ⟨(b2i_f (fun h => by have := h.2; rw [i_le] at this; rw [i_lt] at c2; omega)).symm, rfl⟩
    · refine bX9_within_10 ?_
      refine bX9_within_15 (Or.inr rfl) ?_
      exact hQ _ _ ⟨(b2i_t ⟨by rw [i_le]; rw [i_lt] at c; omega, by rw [i_le]; rw [i_lt] at c2; omega⟩).symm, rfl⟩
theorem pX9_fail {d : Nat} {im : XI} {bo : Bool} {v : Int32} {k : Nat} (hv : -1000000000 - v = nI k) (h1 : 1 ≤ k) (h6 : k ≤ 6) : SpI mX9_fail (d + 1) [.ref 0, .int v] (SC bo) im (fun x im' => x = v ∧ im' = xup im 37 k (im 37 k + 1)) := by
  refine SpI.of [some (.ref 0), some (.int v), none] rfl (by decide) rfl (fun Q hQ => ?_)
  refine bX9_fail_0 pX9_within ?_
  rintro x im1 ⟨hx, hm⟩
  subst hm
  refine bX9_fail_13 (fun c => ?_) (fun _ => ?_)
  · rw [hx, b2i_z] at c
    exact absurd ((in_ab (a := 1) (n := 6) rfl rfl (by decide) (by decide)).mpr ⟨k, h1, h6, hv⟩) c
  · refine bX9_fail_16 hv (by omega) ?_
    refine bX9_fail_26 ?_
    exact hQ _ _ ⟨rfl, rfl⟩
theorem pX9_isKindAndNumber {d : Nat} {im : XI} {S : XS} {v : Int32}  : SpI mX9_isKindAndNumber (d + 1) [.int v] S im (fun x im' => x = b2i (okKm v) ∧ im = im') := by
  refine SpI.of [some (.int v)] rfl (by decide) rfl (fun Q hQ => ?_)
  refine bX9_isKindAndNumber_0 pX9_within ?_
  rintro _ _ ⟨rfl, rfl⟩
  refine bX9_isKindAndNumber_7 (b2i_01 _) ?_
  exact hQ _ _ ⟨rfl, rfl⟩
theorem pX9_isParts {d : Nat} {im : XI} {S : XS} {v : Int32}  : SpI mX9_isParts (d + 1) [.int v] S im (fun x im' => x = b2i (0 ≤ v ∧ v ≤ 99) ∧ im = im') := by
  refine SpI.of [some (.int v)] rfl (by decide) rfl (fun Q hQ => ?_)
  refine bX9_isParts_0 pX9_within ?_
  rintro _ _ ⟨rfl, rfl⟩
  refine bX9_isParts_7 (b2i_01 _) ?_
  exact hQ _ _ ⟨rfl, rfl⟩
theorem pX9_isSheet {d : Nat} {im : XI} {S : XS} {v : Int32}  : SpI mX9_isSheet (d + 1) [.int v] S im (fun x im' => x = b2i (okSh v) ∧ im = im') := by
  refine SpI.of [some (.int v)] rfl (by decide) rfl (fun Q hQ => ?_)
  refine bX9_isSheet_0 pX9_within ?_
  rintro _ _ ⟨rfl, rfl⟩
  refine bX9_isSheet_6 (b2i_01 _) ?_
  exact hQ _ _ ⟨rfl, rfl⟩
theorem pX9_isBeatAndPhase {d : Nat} {im : XI} {S : XS} {v f : Int32}  : SpI mX9_isBeatAndPhase (d + 1) [.int v, .int f] S im (fun x im' => x = b2i (okBt v f) ∧ im = im') := by
  refine SpI.of [some (.int v), some (.int f)] rfl (by decide) rfl (fun Q hQ => ?_)
  refine bX9_isBeatAndPhase_0 pX9_within ?_
  rintro _ _ ⟨rfl, rfl⟩
  refine bX9_isBeatAndPhase_7 (fun c => ?_) (fun c => ?_)
  · rw [b2i_z] at c
    refine bX9_isBeatAndPhase_25 ?_
    refine bX9_isBeatAndPhase_26 (Or.inl rfl) ?_
    exact hQ _ _ ⟨(b2i_f (fun h => c h.1)).symm, rfl⟩
  · rw [b2i_nz] at c
    refine bX9_isBeatAndPhase_10 pX9_within ?_
    rintro _ _ ⟨rfl, rfl⟩
    refine bX9_isBeatAndPhase_18 (fun c2 => ?_) (fun c2 => ?_)
    · rw [b2i_z] at c2
      refine bX9_isBeatAndPhase_25 ?_
      refine bX9_isBeatAndPhase_26 (Or.inl rfl) ?_
      exact hQ _ _ ⟨(b2i_f (fun h => c2 h.2)).symm, rfl⟩
    · rw [b2i_nz] at c2
      refine bX9_isBeatAndPhase_21 ?_
      refine bX9_isBeatAndPhase_26 (Or.inr rfl) ?_
      exact hQ _ _ ⟨(b2i_t ⟨c, c2⟩).symm, rfl⟩
theorem pX9_isUse {d : Nat} {im : XI} {S : XS} {v : Int32}  : SpI mX9_isUse d [.int v] S im (fun x im' => x = b2i (0 ≤ v ∧ v ≤ 1) ∧ im = im') := by
  refine SpI.of [some (.int v)] rfl (by decide) rfl (fun Q hQ => ?_)
  have h9 : (0 ≤ v ∧ v ≤ 1) → V mX9_isUse d (0, 0) 9 [some (.int v)] [] S im Q := by
    intro h
    refine bX9_isUse_9 ?_
    refine bX9_isUse_14 (Or.inr rfl) ?_
    exact hQ _ _ ⟨(b2i_t h).symm, rfl⟩
  refine bX9_isUse_0 (fun c => h9 (by rw [c]; decide)) (fun c => ?_)
  refine bX9_isUse_4 (fun c2 => ?_) (fun c2 => h9 (by rw [c2]; decide))
  refine bX9_isUse_13 ?_
  refine bX9_isUse_14 (Or.inl rfl) ?_
  refine hQ _ _ ⟨(b2i_f (fun h => ?_)).symm, rfl⟩
  obtain ⟨i, hi, rfl⟩ := (in_c (n := 1) rfl (by decide)).mp h
  match i, hi with
  | 0, _ => exact c rfl
  | 1, _ => exact c2 rfl
theorem pX9_holds {d : Nat} {im : XI} {S : XS} {v w : Int32}  : SpI mX9_holds d [.int v, .int w] S im (fun x im' => x = b2i (((v >>> (w &&& 31)) &&& 1) = 1) ∧ im = im') := by
  refine SpI.of [some (.int v), some (.int w)] rfl (by decide) rfl (fun Q hQ => ?_)
  refine bX9_holds_0 (fun c => ?_) (fun c => ?_)
  · refine bX9_holds_13 ?_
    refine bX9_holds_14 (Or.inl rfl) ?_
    exact hQ _ _ ⟨(b2i_f c).symm, rfl⟩
  · refine bX9_holds_9 ?_
    refine bX9_holds_14 (Or.inr rfl) ?_
    exact hQ _ _ ⟨(b2i_t c).symm, rfl⟩
theorem pX9_isUnder {d : Nat} {im : XI} {S : XS} {k : Nat} {y : Int32} (hk : k < 7) (hy0 : 0 ≤ y) : SpI mX9_isUnder (d + 1) [.int (nI k), .int y] S im (fun x im' => x = b2i (under0 (nI k) y) ∧ im = im') := by
  match k, hk with
  | 0, _ =>
    show SpI mX9_isUnder (d + 1) [.int 0, .int y] S im _
    refine SpI.of [some (.int 0), some (.int y), none, none] rfl (by decide) rfl (fun Q hQ => ?_)
    refine bX9_isUnder_0 ?_
    refine bX9_isUnder_4 (fun c => absurd c (by decide)) (fun _ => ?_)
    refine bX9_isUnder_10 (fun c => ?_) (fun d0 => ?_)
    · subst c
      refine bX9_isUnder_37 (fun c => absurd rfl c) (fun _ => ?_)
      refine bX9_isUnder_42 ?_
      refine bX9_isUnder_47 (Or.inr rfl) ?_
      exact hQ _ _ ⟨(b2i_t (by decide)).symm, rfl⟩
    refine bX9_isUnder_15 pX9_within ?_
    rintro _ _ ⟨rfl, rfl⟩
    refine bX9_isUnder_22 (fun c => absurd c (by decide)) (fun _ => ?_)
    refine bX9_isUnder_25 (i1 := 0) rfl (by decide) ?_
    rw [show kab 0 = -1 from rfl, show (0 : Int32) + 1 = 1 from rfl]
    refine bX9_isUnder_4 (fun c => absurd c (by decide)) (fun _ => ?_)
    refine bX9_isUnder_10 (fun c => absurd hy0 (by rw [← c]; decide)) (fun _ => ?_)
    refine bX9_isUnder_15 pX9_within ?_
    rintro _ _ ⟨rfl, rfl⟩
    refine bX9_isUnder_22 (fun _ => ?_) (fun c => absurd (by decide) c)
    refine bX9_isUnder_37 (fun _ => ?_) (fun c => absurd hy0 (by rw [← c]; decide))
    refine bX9_isUnder_46 ?_
    refine bX9_isUnder_47 (Or.inl rfl) ?_
    refine hQ _ _ ⟨(b2i_f (fun h => ?_)).symm, rfl⟩
    rcases h with h | ⟨h0, ⟨ha, h⟩ | ⟨ha, h⟩ | h⟩ <;> first | exact d0 h | exact d0 h.symm | exact absurd ha (by decide) | exact h0 rfl
  | 1, _ =>
    show SpI mX9_isUnder (d + 1) [.int 1, .int y] S im _
    refine SpI.of [some (.int 1), some (.int y), none, none] rfl (by decide) rfl (fun Q hQ => ?_)
    refine bX9_isUnder_0 ?_
    refine bX9_isUnder_4 (fun c => absurd c (by decide)) (fun _ => ?_)
    refine bX9_isUnder_10 (fun c => ?_) (fun d0 => ?_)
    · subst c
      refine bX9_isUnder_37 (fun c => absurd rfl c) (fun _ => ?_)
      refine bX9_isUnder_42 ?_
      refine bX9_isUnder_47 (Or.inr rfl) ?_
      exact hQ _ _ ⟨(b2i_t (by decide)).symm, rfl⟩
    refine bX9_isUnder_15 pX9_within ?_
    rintro _ _ ⟨rfl, rfl⟩
    refine bX9_isUnder_22 (fun c => absurd c (by decide)) (fun _ => ?_)
    refine bX9_isUnder_25 (i1 := 1) rfl (by decide) ?_
    rw [show kab 1 = 0 from rfl, show (0 : Int32) + 1 = 1 from rfl]
    refine bX9_isUnder_4 (fun c => absurd c (by decide)) (fun _ => ?_)
    refine bX9_isUnder_10 (fun c => ?_) (fun d1 => ?_)
    · subst c
      refine bX9_isUnder_37 (fun c => absurd rfl c) (fun _ => ?_)
      refine bX9_isUnder_42 ?_
      refine bX9_isUnder_47 (Or.inr rfl) ?_
      exact hQ _ _ ⟨(b2i_t (by decide)).symm, rfl⟩
    refine bX9_isUnder_15 pX9_within ?_
    rintro _ _ ⟨rfl, rfl⟩
    refine bX9_isUnder_22 (fun c => absurd c (by decide)) (fun _ => ?_)
    refine bX9_isUnder_25 (i1 := 0) rfl (by decide) ?_
    rw [show kab 0 = -1 from rfl, show (1 : Int32) + 1 = 2 from rfl]
    refine bX9_isUnder_4 (fun c => absurd c (by decide)) (fun _ => ?_)
    refine bX9_isUnder_10 (fun c => absurd hy0 (by rw [← c]; decide)) (fun _ => ?_)
    refine bX9_isUnder_15 pX9_within ?_
    rintro _ _ ⟨rfl, rfl⟩
    refine bX9_isUnder_22 (fun _ => ?_) (fun c => absurd (by decide) c)
    refine bX9_isUnder_37 (fun _ => ?_) (fun c => absurd hy0 (by rw [← c]; decide))
    refine bX9_isUnder_46 ?_
    refine bX9_isUnder_47 (Or.inl rfl) ?_
    refine hQ _ _ ⟨(b2i_f (fun h => ?_)).symm, rfl⟩
    rcases h with h | ⟨h0, ⟨ha, h⟩ | ⟨ha, h⟩ | h⟩ <;> first | exact d0 h | exact d1 h | exact d0 h.symm | exact d1 h.symm | exact absurd ha (by decide) | exact h0 rfl
  | 2, _ =>
    show SpI mX9_isUnder (d + 1) [.int 2, .int y] S im _
    refine SpI.of [some (.int 2), some (.int y), none, none] rfl (by decide) rfl (fun Q hQ => ?_)
    refine bX9_isUnder_0 ?_
    refine bX9_isUnder_4 (fun c => absurd c (by decide)) (fun _ => ?_)
    refine bX9_isUnder_10 (fun c => ?_) (fun d0 => ?_)
    · subst c
      refine bX9_isUnder_37 (fun c => absurd rfl c) (fun _ => ?_)
      refine bX9_isUnder_42 ?_
      refine bX9_isUnder_47 (Or.inr rfl) ?_
      exact hQ _ _ ⟨(b2i_t (by decide)).symm, rfl⟩
    refine bX9_isUnder_15 pX9_within ?_
    rintro _ _ ⟨rfl, rfl⟩
    refine bX9_isUnder_22 (fun c => absurd c (by decide)) (fun _ => ?_)
    refine bX9_isUnder_25 (i1 := 2) rfl (by decide) ?_
    rw [show kab 2 = 0 from rfl, show (0 : Int32) + 1 = 1 from rfl]
    refine bX9_isUnder_4 (fun c => absurd c (by decide)) (fun _ => ?_)
    refine bX9_isUnder_10 (fun c => ?_) (fun d1 => ?_)
    · subst c
      refine bX9_isUnder_37 (fun c => absurd rfl c) (fun _ => ?_)
      refine bX9_isUnder_42 ?_
      refine bX9_isUnder_47 (Or.inr rfl) ?_
      exact hQ _ _ ⟨(b2i_t (by decide)).symm, rfl⟩
    refine bX9_isUnder_15 pX9_within ?_
    rintro _ _ ⟨rfl, rfl⟩
    refine bX9_isUnder_22 (fun c => absurd c (by decide)) (fun _ => ?_)
    refine bX9_isUnder_25 (i1 := 0) rfl (by decide) ?_
    rw [show kab 0 = -1 from rfl, show (1 : Int32) + 1 = 2 from rfl]
    refine bX9_isUnder_4 (fun c => absurd c (by decide)) (fun _ => ?_)
    refine bX9_isUnder_10 (fun c => absurd hy0 (by rw [← c]; decide)) (fun _ => ?_)
    refine bX9_isUnder_15 pX9_within ?_
    rintro _ _ ⟨rfl, rfl⟩
    refine bX9_isUnder_22 (fun _ => ?_) (fun c => absurd (by decide) c)
    refine bX9_isUnder_37 (fun _ => ?_) (fun c => absurd hy0 (by rw [← c]; decide))
    refine bX9_isUnder_46 ?_
    refine bX9_isUnder_47 (Or.inl rfl) ?_
    refine hQ _ _ ⟨(b2i_f (fun h => ?_)).symm, rfl⟩
    rcases h with h | ⟨h0, ⟨ha, h⟩ | ⟨ha, h⟩ | h⟩ <;> first | exact d0 h | exact d1 h | exact d0 h.symm | exact d1 h.symm | exact absurd ha (by decide) | exact h0 rfl
  | 3, _ =>
    show SpI mX9_isUnder (d + 1) [.int 3, .int y] S im _
    refine SpI.of [some (.int 3), some (.int y), none, none] rfl (by decide) rfl (fun Q hQ => ?_)
    refine bX9_isUnder_0 ?_
    refine bX9_isUnder_4 (fun c => absurd c (by decide)) (fun _ => ?_)
    refine bX9_isUnder_10 (fun c => ?_) (fun d0 => ?_)
    · subst c
      refine bX9_isUnder_37 (fun c => absurd rfl c) (fun _ => ?_)
      refine bX9_isUnder_42 ?_
      refine bX9_isUnder_47 (Or.inr rfl) ?_
      exact hQ _ _ ⟨(b2i_t (by decide)).symm, rfl⟩
    refine bX9_isUnder_15 pX9_within ?_
    rintro _ _ ⟨rfl, rfl⟩
    refine bX9_isUnder_22 (fun c => absurd c (by decide)) (fun _ => ?_)
    refine bX9_isUnder_25 (i1 := 3) rfl (by decide) ?_
    rw [show kab 3 = 0 from rfl, show (0 : Int32) + 1 = 1 from rfl]
    refine bX9_isUnder_4 (fun c => absurd c (by decide)) (fun _ => ?_)
    refine bX9_isUnder_10 (fun c => ?_) (fun d1 => ?_)
    · subst c
      refine bX9_isUnder_37 (fun c => absurd rfl c) (fun _ => ?_)
      refine bX9_isUnder_42 ?_
      refine bX9_isUnder_47 (Or.inr rfl) ?_
      exact hQ _ _ ⟨(b2i_t (by decide)).symm, rfl⟩
    refine bX9_isUnder_15 pX9_within ?_
    rintro _ _ ⟨rfl, rfl⟩
    refine bX9_isUnder_22 (fun c => absurd c (by decide)) (fun _ => ?_)
    refine bX9_isUnder_25 (i1 := 0) rfl (by decide) ?_
    rw [show kab 0 = -1 from rfl, show (1 : Int32) + 1 = 2 from rfl]
    refine bX9_isUnder_4 (fun c => absurd c (by decide)) (fun _ => ?_)
    refine bX9_isUnder_10 (fun c => absurd hy0 (by rw [← c]; decide)) (fun _ => ?_)
    refine bX9_isUnder_15 pX9_within ?_
    rintro _ _ ⟨rfl, rfl⟩
    refine bX9_isUnder_22 (fun _ => ?_) (fun c => absurd (by decide) c)
    refine bX9_isUnder_37 (fun _ => ?_) (fun c => absurd hy0 (by rw [← c]; decide))
    refine bX9_isUnder_46 ?_
    refine bX9_isUnder_47 (Or.inl rfl) ?_
    refine hQ _ _ ⟨(b2i_f (fun h => ?_)).symm, rfl⟩
    rcases h with h | ⟨h0, ⟨ha, h⟩ | ⟨ha, h⟩ | h⟩ <;> first | exact d0 h | exact d1 h | exact d0 h.symm | exact d1 h.symm | exact absurd ha (by decide) | exact h0 rfl
  | 4, _ =>
    show SpI mX9_isUnder (d + 1) [.int 4, .int y] S im _
    refine SpI.of [some (.int 4), some (.int y), none, none] rfl (by decide) rfl (fun Q hQ => ?_)
    refine bX9_isUnder_0 ?_
    refine bX9_isUnder_4 (fun c => absurd c (by decide)) (fun _ => ?_)
    refine bX9_isUnder_10 (fun c => ?_) (fun d0 => ?_)
    · subst c
      refine bX9_isUnder_37 (fun c => absurd rfl c) (fun _ => ?_)
      refine bX9_isUnder_42 ?_
      refine bX9_isUnder_47 (Or.inr rfl) ?_
      exact hQ _ _ ⟨(b2i_t (by decide)).symm, rfl⟩
    refine bX9_isUnder_15 pX9_within ?_
    rintro _ _ ⟨rfl, rfl⟩
    refine bX9_isUnder_22 (fun c => absurd c (by decide)) (fun _ => ?_)
    refine bX9_isUnder_25 (i1 := 4) rfl (by decide) ?_
    rw [show kab 4 = 1 from rfl, show (0 : Int32) + 1 = 1 from rfl]
    refine bX9_isUnder_4 (fun c => absurd c (by decide)) (fun _ => ?_)
    refine bX9_isUnder_10 (fun c => ?_) (fun d1 => ?_)
    · subst c
      refine bX9_isUnder_37 (fun c => absurd rfl c) (fun _ => ?_)
      refine bX9_isUnder_42 ?_
      refine bX9_isUnder_47 (Or.inr rfl) ?_
      exact hQ _ _ ⟨(b2i_t (by decide)).symm, rfl⟩
    refine bX9_isUnder_15 pX9_within ?_
    rintro _ _ ⟨rfl, rfl⟩
    refine bX9_isUnder_22 (fun c => absurd c (by decide)) (fun _ => ?_)
    refine bX9_isUnder_25 (i1 := 1) rfl (by decide) ?_
    rw [show kab 1 = 0 from rfl, show (1 : Int32) + 1 = 2 from rfl]
    refine bX9_isUnder_4 (fun c => absurd c (by decide)) (fun _ => ?_)
    refine bX9_isUnder_10 (fun c => ?_) (fun d2 => ?_)
    · subst c
      refine bX9_isUnder_37 (fun c => absurd rfl c) (fun _ => ?_)
      refine bX9_isUnder_42 ?_
      refine bX9_isUnder_47 (Or.inr rfl) ?_
      exact hQ _ _ ⟨(b2i_t (by decide)).symm, rfl⟩
    refine bX9_isUnder_15 pX9_within ?_
    rintro _ _ ⟨rfl, rfl⟩
    refine bX9_isUnder_22 (fun c => absurd c (by decide)) (fun _ => ?_)
    refine bX9_isUnder_25 (i1 := 0) rfl (by decide) ?_
    rw [show kab 0 = -1 from rfl, show (2 : Int32) + 1 = 3 from rfl]
    refine bX9_isUnder_4 (fun c => absurd c (by decide)) (fun _ => ?_)
    refine bX9_isUnder_10 (fun c => absurd hy0 (by rw [← c]; decide)) (fun _ => ?_)
    refine bX9_isUnder_15 pX9_within ?_
    rintro _ _ ⟨rfl, rfl⟩
    refine bX9_isUnder_22 (fun _ => ?_) (fun c => absurd (by decide) c)
    refine bX9_isUnder_37 (fun _ => ?_) (fun c => absurd hy0 (by rw [← c]; decide))
    refine bX9_isUnder_46 ?_
    refine bX9_isUnder_47 (Or.inl rfl) ?_
    refine hQ _ _ ⟨(b2i_f (fun h => ?_)).symm, rfl⟩
    rcases h with h | ⟨h0, ⟨ha, h⟩ | ⟨ha, h⟩ | h⟩ <;> first | exact d0 h | exact d1 h | exact d2 h | exact d0 h.symm | exact d1 h.symm | exact d2 h.symm | exact absurd ha (by decide) | exact h0 rfl
  | 5, _ =>
    show SpI mX9_isUnder (d + 1) [.int 5, .int y] S im _
    refine SpI.of [some (.int 5), some (.int y), none, none] rfl (by decide) rfl (fun Q hQ => ?_)
    refine bX9_isUnder_0 ?_
    refine bX9_isUnder_4 (fun c => absurd c (by decide)) (fun _ => ?_)
    refine bX9_isUnder_10 (fun c => ?_) (fun d0 => ?_)
    · subst c
      refine bX9_isUnder_37 (fun c => absurd rfl c) (fun _ => ?_)
      refine bX9_isUnder_42 ?_
      refine bX9_isUnder_47 (Or.inr rfl) ?_
      exact hQ _ _ ⟨(b2i_t (by decide)).symm, rfl⟩
    refine bX9_isUnder_15 pX9_within ?_
    rintro _ _ ⟨rfl, rfl⟩
    refine bX9_isUnder_22 (fun c => absurd c (by decide)) (fun _ => ?_)
    refine bX9_isUnder_25 (i1 := 5) rfl (by decide) ?_
    rw [show kab 5 = 2 from rfl, show (0 : Int32) + 1 = 1 from rfl]
    refine bX9_isUnder_4 (fun c => absurd c (by decide)) (fun _ => ?_)
    refine bX9_isUnder_10 (fun c => ?_) (fun d1 => ?_)
    · subst c
      refine bX9_isUnder_37 (fun c => absurd rfl c) (fun _ => ?_)
      refine bX9_isUnder_42 ?_
      refine bX9_isUnder_47 (Or.inr rfl) ?_
      exact hQ _ _ ⟨(b2i_t (by decide)).symm, rfl⟩
    refine bX9_isUnder_15 pX9_within ?_
    rintro _ _ ⟨rfl, rfl⟩
    refine bX9_isUnder_22 (fun c => absurd c (by decide)) (fun _ => ?_)
    refine bX9_isUnder_25 (i1 := 2) rfl (by decide) ?_
    rw [show kab 2 = 0 from rfl, show (1 : Int32) + 1 = 2 from rfl]
    refine bX9_isUnder_4 (fun c => absurd c (by decide)) (fun _ => ?_)
    refine bX9_isUnder_10 (fun c => ?_) (fun d2 => ?_)
    · subst c
      refine bX9_isUnder_37 (fun c => absurd rfl c) (fun _ => ?_)
      refine bX9_isUnder_42 ?_
      refine bX9_isUnder_47 (Or.inr rfl) ?_
      exact hQ _ _ ⟨(b2i_t (by decide)).symm, rfl⟩
    refine bX9_isUnder_15 pX9_within ?_
    rintro _ _ ⟨rfl, rfl⟩
    refine bX9_isUnder_22 (fun c => absurd c (by decide)) (fun _ => ?_)
    refine bX9_isUnder_25 (i1 := 0) rfl (by decide) ?_
    rw [show kab 0 = -1 from rfl, show (2 : Int32) + 1 = 3 from rfl]
    refine bX9_isUnder_4 (fun c => absurd c (by decide)) (fun _ => ?_)
    refine bX9_isUnder_10 (fun c => absurd hy0 (by rw [← c]; decide)) (fun _ => ?_)
    refine bX9_isUnder_15 pX9_within ?_
    rintro _ _ ⟨rfl, rfl⟩
    refine bX9_isUnder_22 (fun _ => ?_) (fun c => absurd (by decide) c)
    refine bX9_isUnder_37 (fun _ => ?_) (fun c => absurd hy0 (by rw [← c]; decide))
    refine bX9_isUnder_46 ?_
    refine bX9_isUnder_47 (Or.inl rfl) ?_
    refine hQ _ _ ⟨(b2i_f (fun h => ?_)).symm, rfl⟩
    rcases h with h | ⟨h0, ⟨ha, h⟩ | ⟨ha, h⟩ | h⟩ <;> first | exact d0 h | exact d1 h | exact d2 h | exact d0 h.symm | exact d1 h.symm | exact d2 h.symm | exact absurd ha (by decide) | exact h0 rfl
  | 6, _ =>
    show SpI mX9_isUnder (d + 1) [.int 6, .int y] S im _
    refine SpI.of [some (.int 6), some (.int y), none, none] rfl (by decide) rfl (fun Q hQ => ?_)
    refine bX9_isUnder_0 ?_
    refine bX9_isUnder_4 (fun c => absurd c (by decide)) (fun _ => ?_)
    refine bX9_isUnder_10 (fun c => ?_) (fun d0 => ?_)
    · subst c
      refine bX9_isUnder_37 (fun c => absurd rfl c) (fun _ => ?_)
      refine bX9_isUnder_42 ?_
      refine bX9_isUnder_47 (Or.inr rfl) ?_
      exact hQ _ _ ⟨(b2i_t (by decide)).symm, rfl⟩
    refine bX9_isUnder_15 pX9_within ?_
    rintro _ _ ⟨rfl, rfl⟩
    refine bX9_isUnder_22 (fun c => absurd c (by decide)) (fun _ => ?_)
    refine bX9_isUnder_25 (i1 := 6) rfl (by decide) ?_
    rw [show kab 6 = 0 from rfl, show (0 : Int32) + 1 = 1 from rfl]
    refine bX9_isUnder_4 (fun c => absurd c (by decide)) (fun _ => ?_)
    refine bX9_isUnder_10 (fun c => ?_) (fun d1 => ?_)
    · subst c
      refine bX9_isUnder_37 (fun c => absurd rfl c) (fun _ => ?_)
      refine bX9_isUnder_42 ?_
      refine bX9_isUnder_47 (Or.inr rfl) ?_
      exact hQ _ _ ⟨(b2i_t (by decide)).symm, rfl⟩
    refine bX9_isUnder_15 pX9_within ?_
    rintro _ _ ⟨rfl, rfl⟩
    refine bX9_isUnder_22 (fun c => absurd c (by decide)) (fun _ => ?_)
    refine bX9_isUnder_25 (i1 := 0) rfl (by decide) ?_
    rw [show kab 0 = -1 from rfl, show (1 : Int32) + 1 = 2 from rfl]
    refine bX9_isUnder_4 (fun c => absurd c (by decide)) (fun _ => ?_)
    refine bX9_isUnder_10 (fun c => absurd hy0 (by rw [← c]; decide)) (fun _ => ?_)
    refine bX9_isUnder_15 pX9_within ?_
    rintro _ _ ⟨rfl, rfl⟩
    refine bX9_isUnder_22 (fun _ => ?_) (fun c => absurd (by decide) c)
    refine bX9_isUnder_37 (fun _ => ?_) (fun c => absurd hy0 (by rw [← c]; decide))
    refine bX9_isUnder_46 ?_
    refine bX9_isUnder_47 (Or.inl rfl) ?_
    refine hQ _ _ ⟨(b2i_f (fun h => ?_)).symm, rfl⟩
    rcases h with h | ⟨h0, ⟨ha, h⟩ | ⟨ha, h⟩ | h⟩ <;> first | exact d0 h | exact d1 h | exact d0 h.symm | exact d1 h.symm | exact absurd ha (by decide) | exact h0 rfl
theorem pX9_rest {d : Nat} {im : XI} {S : XS} {t v f : Int32} {b : Nat} (hv : v = nI b) (h0 : 0 < b) (hb : b < 1000) : SpI mX9_rest d [.int t, .int v, .int f] S im (fun x im' => x = rest0 t f v ∧ im = im') := by
  refine SpI.of [some (.int t), some (.int v), some (.int f)] rfl (by decide) rfl (fun Q hQ => ?_)
  have hp : 0 < v := by rw [hv]; exact (nI_lt0 (by omega)).mpr h0
  refine bX9_rest_0 (fun c => ?_) (fun c => ?_)
  · exact absurd c (by rw [i_le]; rw [i_lt] at hp; omega)
  · refine bX9_rest_4 (fun c => by rw [c] at hp; exact absurd hp (by decide)) ?_
    refine bX9_rest_13 ?_
    exact hQ _ _ ⟨rfl, rfl⟩

theorem sx (v : BitVec 32) (t : Nat) (ht0 : 0 < t) (ht : t ≤ 32) : (v.getLsbD (t - 1) = false → ((v <<< (32 - t)).sshiftRight (32 - t)) = v &&& BitVec.ofNat 32 (2 ^ t - 1)) ∧ (v.getLsbD (t - 1) = true → ((v <<< (32 - t)).sshiftRight (32 - t)).msb = true ∧ 2 ^ (t - 1) ≤ (v &&& BitVec.ofNat 32 (2 ^ t - 1)).toNat) := by
  have hb : ∀ i, i < 32 → ((v <<< (32 - t)).sshiftRight (32 - t)).getLsbD i = if i < t then v.getLsbD i else v.getLsbD (t - 1) := by
    intro i hi
    rw [BitVec.getLsbD_sshiftRight]
    by_cases h : i < t
    · rw [if_pos h, if_pos (show 32 - t + i < 32 by omega), BitVec.getLsbD_shiftLeft]
      simp [hi, show ¬ 32 - t + i < 32 - t by omega, show 32 - t + i < 32 by omega, show ¬ 32 ≤ i by omega]
    · rw [if_neg h, if_neg (show ¬ 32 - t + i < 32 by omega)]
      simp only [BitVec.msb_eq_getLsbD_last, BitVec.getLsbD_shiftLeft]
      simp [show ¬ 32 ≤ i by omega, show ¬ 31 < 32 - t by omega, show 31 - (32 - t) = t - 1 by omega]
  constructor
  · intro h
    apply BitVec.eq_of_getLsbD_eq
    intro i hi
    rw [hb i hi, BitVec.getLsbD_and, BitVec.getLsbD_ofNat, Nat.testBit_two_pow_sub_one, h]
    by_cases c : i < t
    · simp [c, hi]
    · simp [c]
  · intro h
    refine ⟨?_, ?_⟩
    · rw [BitVec.msb_eq_getLsbD_last, hb 31 (by omega)]
      by_cases c : 31 < t
      · have : t = 32 := by omega
        subst this
        simpa using h
      · rw [if_neg c]; exact h
    · apply Nat.ge_two_pow_of_testBit
      show (v &&& BitVec.ofNat 32 (2 ^ t - 1)).getLsbD (t - 1) = true
      rw [BitVec.getLsbD_and, BitVec.getLsbD_ofNat, Nat.testBit_two_pow_sub_one, h]
      simp; omega
def nmR (x y : Int32) : Prop := x = y ∨ (¬ (0 ≤ x ∧ x ≤ 127) ∧ ¬ (0 ≤ y ∧ y ≤ 127))
theorem nmR.rf {x : Int32} : nmR x x := Or.inl rfl
theorem nmR.eq {x y v : Int32} {n : Nat} (h : nmR x y) (hv : v = nI n) (hn : n ≤ 127) : (x = v ↔ y = v) := by
  rcases h with h | ⟨h1, h2⟩
  · rw [h]
  · have hb : 0 ≤ v ∧ v ≤ 127 := (in_c (n := 127) rfl (by decide)).mpr ⟨n, hn, hv⟩
    exact ⟨fun e => absurd hb (e ▸ h1), fun e => absurd hb (e ▸ h2)⟩
theorem nmR.pa {x y : Int32} (h : nmR x y) : ((0 ≤ x ∧ x ≤ 99) ↔ (0 ≤ y ∧ y ≤ 99)) ∧ ((0 ≤ x ∧ x ≤ 99) → x = y) := by
  rcases h with h | ⟨h1, h2⟩
  · rw [h]; exact ⟨Iff.rfl, fun _ => rfl⟩
  · have up : ∀ z : Int32, (0 ≤ z ∧ z ≤ 99) → (0 ≤ z ∧ z ≤ 127) := fun z hz => ⟨hz.1, by have := hz.2; rw [i_le] at *; have e1 : (99 : Int32).toInt = 99 := rfl; have e2 : (127 : Int32).toInt = 127 := rfl; omega⟩
    exact ⟨⟨fun e => absurd (up _ e) h1, fun e => absurd (up _ e) h2⟩, fun e => absurd (up _ e) h1⟩
/-- a number as a sheet of the class keeps it -/
def lowC (v t : Int32) : Int32 := if t = 8 then v &&& 255 else if t = 16 then v &&& 65535 else v
theorem sx_i (v : Int32) (t : Nat) (ht0 : 8 ≤ t) (ht : t < 32) (m sh : Int32) (hm : m.toBitVec = BitVec.ofNat 32 (2 ^ t - 1)) (hs : ((v <<< sh) >>> sh).toBitVec = (v.toBitVec <<< (32 - t)).sshiftRight (32 - t)) : nmR (v &&& m) ((v <<< sh) >>> sh) := by
  obtain ⟨h1, h2⟩ := sx v.toBitVec t (by omega) (by omega)
  cases hb : v.toBitVec.getLsbD (t - 1) with
  | false =>
    left
    apply Int32.toBitVec_inj.mp
    rw [hs, h1 hb, Int32.toBitVec_and, hm]
  | true =>
    right
    obtain ⟨h3, h4⟩ := h2 hb
    have hp : 2 ^ 7 ≤ 2 ^ (t - 1) := Nat.pow_le_pow_right (by decide) (by omega)
    refine ⟨fun h => ?_, fun h => ?_⟩
    · obtain ⟨i, hi, e⟩ := (in_c (n := 127) rfl (by decide)).mp h
      have e2 : (v &&& m).toBitVec.toNat = i := by rw [e]; exact pk_tn (by omega)
      rw [Int32.toBitVec_and, hm] at e2
      omega
    · obtain ⟨i, hi, e⟩ := (in_c (n := 127) rfl (by decide)).mp h
      have e2 : ((v <<< sh) >>> sh).toBitVec.toNat = i := by rw [e]; exact pk_tn (by omega)
      rw [hs] at e2
      rw [BitVec.msb_eq_decide] at h3
      have := of_decide_eq_true h3
      omega
theorem low_nm (v : Int32) {t : Int32} (ht : okBits t) (h0 : ¬ t = 0) : nmR (lowC v t) (narrow v t) := by
  rcases ht with h | h | h | h
  · exact absurd h h0
  · subst h
    exact sx_i v 8 (by omega) (by omega) 255 ((32 - 8) &&& 31) rfl rfl
  · subst h
    exact sx_i v 16 (by omega) (by omega) 65535 ((32 - 16) &&& 31) rfl rfl
  · subst h
    left
    show v = (v <<< ((32 - 32) &&& 31)) >>> ((32 - 32) &&& 31)
    apply Int32.toBitVec_inj.mp
    show v.toBitVec = (v.toBitVec <<< 0).sshiftRight 0
    simp
/-- the sheets of the class, and the rows of the reference -/
def SR (bs ss nu : Nat → Int32) (im : XI) : Prop := ∀ z, z < 4 → im (38 + 3 * z) 1 = bs z ∧ im (39 + 3 * z) 1 = ss z ∧ ∀ m : Nat, m ≤ 24 → ss z = nI m → ∀ k, k < m → nmR (im (40 + 3 * z) k) (nu (24 * z + k))
def SI (bs ss : Nat → Int32) : Prop := ∀ z, z < 4 → okBits (bs z) ∧ ∃ m : Nat, m ≤ 24 ∧ ss z = nI m
def kSh (im im' : XI) : Prop := ∀ a k, ¬ ((1 ≤ a ∧ a ≤ 32) ∨ (38 ≤ a ∧ a ≤ 49)) → im' a k = im a k
theorem kK.Sh {im im' : XI} (h : kK im im') : kSh im im' := fun a k hk => h a k (fun g => hk (Or.inl g))
theorem SR.ext {bs ss nu : Nat → Int32} {im im' : XI} (h : SR bs ss nu im) (ha : ∀ a, 38 ≤ a → a ≤ 49 → im' a = im a) : SR bs ss nu im' := by
  intro z hz
  obtain ⟨h1, h2, h3⟩ := h z hz
  exact ⟨by rw [ha _ (by omega) (by omega)]; exact h1, by rw [ha _ (by omega) (by omega)]; exact h2, fun m hm24 hm k hk => by rw [ha _ (by omega) (by omega)]; exact h3 m hm24 hm k hk⟩
def Pshc (im : XI) (s : Nat → Int32) (y : Int32) (bs ss nu : Nat → Int32) (x : Int32) (im' : XI) : Prop := x = y ∧ RI 0 s im' ∧ SR bs ss nu im' ∧ kSh im im'
def opSheetC (im : XI) (s bs ss nu : Nat → Int32) (z t n : Int32) (x : Int32) (im' : XI) : Prop :=
  if ¬ (okSh z ∧ okBits t) then Pc im (rE 1 s) x im' else if ¬ t = 0 ∧ n < 0 then Pc im (rE 3 s) x im' else if ¬ t = 0 ∧ 24 < n then Pc im (rE 1 s) x im' else
  Pshc im s 1 (upd bs (nnat z) t) (upd ss (nnat z) (if t = 0 then 0 else n)) (clr nu (nnat z) 24) x im'
def opPutC (im : XI) (s bs ss nu : Nat → Int32) (z i v : Int32) (x : Int32) (im' : XI) : Prop :=
  if ¬ okSh z then Pc im (rE 1 s) x im' else if bs (nnat z) = 0 then Pc im (rE 2 s) x im' else if ¬ (0 ≤ i ∧ i ≤ ss (nnat z) - 1) then Pc im (rE 1 s) x im' else
  Pshc im s 1 bs ss (upd nu (24 * nnat z + nnat i) (narrow v (bs (nnat z)))) x im'
def opMoveNC (im : XI) (s bs ss nu : Nat → Int32) (z : Nat) (i : Int32) (y : Nat) (j n : Int32) (x : Int32) (im' : XI) : Prop :=
  if bs z = 0 ∨ bs y = 0 then Pc im (rE 2 s) x im' else if ¬ bs z = bs y then Pc im (rE 5 s) x im' else if ¬ okMv ss z i y j n then Pc im (rE 1 s) x im' else
  Pshc im s n bs ss (mvd nu z (nnat i) y (nnat j) (nnat n)) x im'
def opMoveC (im : XI) (s bs ss nu : Nat → Int32) (z i y j n : Int32) (x : Int32) (im' : XI) : Prop :=
  if ¬ (okSh z ∧ okSh y) then Pc im (rE 1 s) x im' else opMoveNC im s bs ss nu (nnat z) i (nnat y) j n x im'
theorem sp_iff {i n : Int32} {m : Nat} (hm : m ≤ 24) (hn : ¬ n < 0) (hi : ¬ i < 0) : (i ≤ nI m - n) ↔ (¬ nI m < i ∧ ¬ nI m - i < n) := by
  obtain ⟨a, ha, rfl⟩ := nI_of hn
  obtain ⟨b, hb, rfl⟩ := nI_of hi
  rw [i_le, i_lt, i_lt, Int32.toInt_sub, Int32.toInt_sub, nI_toInt hb, nI_toInt ha, nI_toInt (by omega), Int.bmod_def, Int.bmod_def]
  split <;> split <;> omega

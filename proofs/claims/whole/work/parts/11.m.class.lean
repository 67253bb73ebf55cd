theorem fitN_s {s : Nat → Int32} {p : Nat} {cn : Nat → Int32} {t b f : Int32} {k : Nat} (h : fitN s p cn t b f k = 1) : fitN s p cn t b f (k + 1) = if shutG s p (t + nI k) b f = cn k then 1 else 0 := by
  show (if fitN s p cn t b f k = 0 then 0 else _) = _
  rw [h, if_neg (by decide)]
theorem pX1_isFit {d : Nat} {im : XI} {bo : Bool} {s : Nat → Int32} {np nd : Nat} {p b f r a m : Nat} {p0 w g : Int32} {cn : Nat → Int32} (hR : RI 0 s im) (hI : Iv s np nd) (hp0 : p0 = nI p) (hp : p < np) (hw : w = nI b) (hb0 : 0 < b) (hb : b ≤ 12) (hg : g = nI f) (hK : (SC bo).1[r]? = some (.inl 6)) (hA : (SC bo).2 r 0 = some a) (hX : XA (SC bo) a 24) (hr : 33 ≤ r) (ha : 33 ≤ a) (hm : m ≤ 24) (hf : im r 1 = nI m) (hc : ∀ k, k < m → im a k = cn k) : SpI mX1_isFit (d + 4) [.ref 31, .int p0, .int w, .int g, .ref r] (SC bo) im (fun x im' => x = fitN s p cn (s 0) (nI b) (nI f) m ∧ kC im im') := by
  refine SpI.of [some (.ref 31), some (.int p0), some (.int w), some (.int g), some (.ref r), none, none] rfl (by decide) rfl (fun Q hQ => ?_)
  subst hp0; subst hw; subst hg
  have key : ∀ (n k : Nat) (im1 : XI), m < k + n → k ≤ m → kC im im1 → fitN s p cn (s 0) (nI b) (nI f) k = 1 → V mX1_isFit (d + 4) (0, 0) 3 [some (.ref 31), some (.int (nI p)), some (.int (nI b)), some (.int (nI f)), some (.ref r), some (.int (nI k)), none] [] (SC bo) im1 Q := by
    intro n
    induction n with
    | zero => intro k im1 a1 a2; omega
    | succ n ih =>
      intro k im1 a1 a2 hk h1
      have hR1 := hR.kC hI hk
      refine bX1_isFit_3 hK (pX6_size hK) ?_
      rintro _ _ ⟨rfl, rfl⟩
      rw [hk.e r (by omega), hf]
      refine bX1_isFit_10 (fun c => ?_) (fun c => ?_)
      · have := ge_i (by omega) (by omega) c
        obtain rfl : k = m := by omega
        refine bX1_isFit_63 ?_
        exact hQ _ _ ⟨h1.symm, hk⟩
      · have hlt := lt_i (by omega) (by omega) c
        refine bX1_isFit_13 (pX2_isShutBy hR1 hI rfl hp rfl hb0 hb) ?_
        rintro _ im2 ⟨rfl, hk2⟩
        rw [nowW hR1]
        have hk3 := hk.tr hk2
        have go : ∀ z : Int32, z = shutG s p (s 0 + nI k) (nI b) (nI f) → V mX1_isFit (d + 4) (0, 0) 41 [some (.ref 31), some (.int (nI p)), some (.int (nI b)), some (.int (nI f)), some (.ref r), some (.int (nI k)), none] [.int z] (SC bo) im2 Q := by
          intro z hz
          refine bX1_isFit_41 hK (pX6_at hK hA hX ((congrFun (hk3.e r (by omega)) 1).trans hf) hm rfl hlt) ?_
          rintro _ _ ⟨rfl, rfl⟩
          rw [hk3.e a (by omega), hc k hlt]
          refine bX1_isFit_50 (fun c2 => ?_) (fun c2 => ?_)
          · refine bX1_isFit_57 ?_
            rw [nI_1]
            exact ih (k + 1) _ (by omega) (by omega) hk3 (by rw [fitN_s h1, ← hz, c2, if_pos rfl])
          · refine bX1_isFit_55 ?_
            refine hQ _ _ ⟨?_, hk3⟩
            refine (fitN_z (n := k + 1) ?_ (by omega)).symm
            rw [fitN_s h1, ← hz, if_neg (fun g => c2 g.symm)]
        refine bX1_isFit_33 (fun c2 => ?_) (fun c2 => ?_)
        · refine bX1_isFit_40 ?_
          exact go 0 c2.symm
        · refine bX1_isFit_36 ?_
          exact go 1 ((shutG_01 _ _ _ _ _).resolve_left c2).symm
  refine bX1_isFit_0 ?_
  exact key (m + 1) 0 im (by omega) (by omega) kC.rf rfl
theorem rowF_s (c : Nat → Nat → Int32) (b f : Nat) : rowF c b (f + 1) = if ¬ rowF c b f = -1 then rowF c b f else if c b f = 0 then -1 else nI (100 * b + f) := rfl
theorem totF_s (c : Nat → Nat → Int32) (b : Nat) : totF c (b + 1) = if ¬ totF c b = -1 then totF c b else rowF c (b + 1) (b + 1) := rfl
/-- how many fit, and the first -/
def FtR (im : XI) (cnt fst : Int32) : Prop := im 31 4 = cnt ∧ (fst = -1 → cnt = 0) ∧ (¬ fst = -1 → im 31 5 = fst)
theorem pX1_findFits {d : Nat} {im : XI} {bo : Bool} {s : Nat → Int32} {np nd : Nat} {p r a m : Nat} {p0 : Int32} {cn : Nat → Int32} {C : Nat → Nat → Int32} (hR : RI 0 s im) (hI : Iv s np nd) (hp0 : p0 = nI p) (hp : p < np) (hK : (SC bo).1[r]? = some (.inl 6)) (hA : (SC bo).2 r 0 = some a) (hX : XA (SC bo) a 24) (hr : 33 ≤ r) (ha : 33 ≤ a) (hm : m ≤ 24) (hf : im r 1 = nI m) (hc : ∀ k, k < m → im a k = cn k) (hC : C = fun b f => fitN s p cn (s 0) (nI b) (nI f) m) : SpV mX1_findFits (d + 5) [.ref 31, .int p0, .ref r] (SC bo) im (fun im' => (∃ q : Nat, q ≤ 1000 ∧ totC C 12 = nI q ∧ (q = 0 ↔ totF C 12 = -1)) ∧ im' 31 4 = totC C 12 ∧ (¬ totF C 12 = -1 → im' 31 5 = totF C 12) ∧ kF im im') := by
  refine SpV.of [some (.ref 31), some (.int p0), some (.ref r), none, none] rfl (by decide) rfl (fun Q hQ => ?_)
  subst hp0
  have hnp := hI.1.1
  have c01 : ∀ b f, C b f = 0 ∨ C b f = 1 := fun b f => by rw [hC]; exact fitN_01 _ _ _ _ _ _ _
  have outer : ∀ (n b : Nat) (im1 : XI), 12 < b + n → b ≤ 12 → kF im im1 → im1 31 4 = totC C b → (∃ q : Nat, q ≤ 12 * b ∧ totC C b = nI q ∧ (q = 0 ↔ totF C b = -1)) → (¬ totF C b = -1 → im1 31 5 = totF C b) → V mX1_findFits (d + 5) (0, 0) 12 [some (.ref 31), some (.int (nI p)), some (.ref r), some (.int (nI (b + 1))), none] [] (SC bo) im1 Q := by
    intro n
    induction n with
    | zero => intro b im1 a1 a2; omega
    | succ n ihn =>
      intro b im1 a1 a2 hk h4 hq h5
      refine bX1_findFits_12 (fun c => ?_) (fun c => ?_)
      · have := (nI_ltI (a := 12) (by omega) (by omega)).mp c
        obtain rfl : b = 12 := by omega
        refine bX1_findFits_86 ?_
        obtain ⟨q, q1, q2, q3⟩ := hq
        exact hQ _ ⟨⟨q, by omega, q2, q3⟩, h4, h5, hk⟩
      · have hb : b < 12 := by
          rcases Nat.lt_or_ge b 12 with h | h
          · exact h
          · exact absurd ((nI_ltI (a := 12) (by omega) (by omega)).mpr (by omega)) c
        refine bX1_findFits_18 ?_
        have inner : ∀ (g f : Nat) (im2 : XI), b + 1 < f + g → f ≤ b + 1 → kF im im2 → im2 31 4 = totC C b + rowC C (b + 1) f → (∃ q : Nat, q ≤ 12 * b + f ∧ totC C b + rowC C (b + 1) f = nI q ∧ (q = 0 ↔ (if ¬ totF C b = -1 then totF C b else rowF C (b + 1) f) = -1)) → (¬ (if ¬ totF C b = -1 then totF C b else rowF C (b + 1) f) = -1 → im2 31 5 = (if ¬ totF C b = -1 then totF C b else rowF C (b + 1) f)) → V mX1_findFits (d + 5) (0, 0) 21 [some (.ref 31), some (.int (nI p)), some (.ref r), some (.int (nI (b + 1))), some (.int (nI f))] [] (SC bo) im2 Q := by
          intro g
          induction g with
          | zero => intro f im2 b1 b2; omega
          | succ g ihg =>
            intro f im2 b1 b2 hk2 g4 gq g5
            have hR2 := hR.kF hI hk2
            refine bX1_findFits_21 (fun c2 => ?_) (fun c2 => ?_)
            · have := ge_i (by omega) (by omega) c2
              obtain rfl : f = b + 1 := by omega
              refine bX1_findFits_80 ?_
              rw [nI_1]
              obtain ⟨q, q1, q2, q3⟩ := gq
              exact ihn (b + 1) im2 (by omega) (by omega) hk2 g4 ⟨q, by omega, q2, q3⟩ g5
            · have hlt := lt_i (by omega) (by omega) c2
              have hcC : C (b + 1) f = fitN s p cn (s 0) (nI (b + 1)) (nI f) m := by rw [hC]
              refine bX1_findFits_27 (pX1_isFit (b := b + 1) (f := f) hR2 hI rfl hp rfl (by omega) (by omega) rfl hK hA hX hr ha hm ((hk2 r 1 (by omega)).trans hf) (fun k hk' => (hk2 a k (by omega)).trans (hc k hk'))) ?_
              rintro x im3 ⟨hx, hk3⟩
              rw [← hcC] at hx
              subst hx
              have hk4 := hk2.tr hk3.F
              have e31 : ∀ i, im3 31 i = im2 31 i := fun i => hk3 31 i (by omega)
              have hrC : rowC C (b + 1) (f + 1) = rowC C (b + 1) f + C (b + 1) f := rfl
              have hrF := rowF_s C (b + 1) f
              obtain ⟨q, q1, q2, q3⟩ := gq
              refine bX1_findFits_36 (fun c3 => ?_) (fun c3 => ?_)
              · refine bX1_findFits_74 ?_
                rw [nI_1]
                rw [c3, Int32.add_zero] at hrC
                have hF1 : rowF C (b + 1) (f + 1) = rowF C (b + 1) f := by
                  rw [hrF, if_pos c3]
                  by_cases h : rowF C (b + 1) f = -1
                  · rw [if_neg (not_not_intro h), h]
                  · rw [if_pos h]
                refine ihg (f + 1) im3 (by omega) (by omega) hk4 (by rw [e31, g4, hrC]) ⟨q, by omega, by rw [hrC]; exact q2, by rw [hF1]; exact q3⟩ (by rw [hF1, e31]; exact g5)
              · have c4 : C (b + 1) f = 1 := (c01 _ _).resolve_left c3
                rw [c4] at hrC
                have e100 : (100 : Int32) * nI (b + 1) + nI f = nI (100 * (b + 1) + f) := by rw [show (100 : Int32) = nI 100 from rfl, pk_mul, nI_add]
                have hcnt : totC C b + rowC C (b + 1) (f + 1) = nI (q + 1) := by rw [hrC, ← Int32.add_assoc, q2, nI_1]
                have hF1 : (if ¬ totF C b = -1 then totF C b else rowF C (b + 1) (f + 1)) = if q = 0 then nI (100 * (b + 1) + f) else (if ¬ totF C b = -1 then totF C b else rowF C (b + 1) f) := by
                  by_cases hq0 : q = 0
                  · rw [if_pos hq0]
                    have h0 := q3.mp hq0
                    by_cases h1 : totF C b = -1
                    · rw [if_neg (not_not_intro h1)] at h0 ⊢
                      rw [hrF, if_neg (not_not_intro h0), if_neg c3]
                    · rw [if_pos h1] at h0
                      exact absurd h0 h1
                  · rw [if_neg hq0]
                    have h0 : ¬ (if ¬ totF C b = -1 then totF C b else rowF C (b + 1) f) = -1 := fun h => hq0 (q3.mpr h)
                    by_cases h1 : totF C b = -1
                    · rw [if_neg (not_not_intro h1)] at h0 ⊢
                      rw [if_neg (not_not_intro h1), hrF, if_pos h0]
                    · rw [if_pos h1, if_pos h1]
                have hneF : ¬ (if ¬ totF C b = -1 then totF C b else rowF C (b + 1) (f + 1)) = -1 := by
                  rw [hF1]
                  by_cases hq0 : q = 0
                  · rw [if_pos hq0]; exact nI_nm1 (by omega)
                  · rw [if_neg hq0]; exact fun h => hq0 (q3.mpr h)
                have f61 : ∀ v : Int32, v = (if q = 0 then nI (100 * (b + 1) + f) else (if ¬ totF C b = -1 then totF C b else rowF C (b + 1) f)) → V mX1_findFits (d + 5) (0, 0) 61 [some (.ref 31), some (.int (nI p)), some (.ref r), some (.int (nI (b + 1))), some (.int (nI f))] [.int v, .ref 31] (SC bo) im3 Q := by
                  intro v hv
                  refine bX1_findFits_61 (by cases bo <;> rfl) ?_
                  refine bX1_findFits_74 ?_
                  rw [nI_1]
                  refine ihg (f + 1) _ (by omega) (by omega) ((hk4.up (by omega)).up (by omega)) ?_ ⟨q + 1, by omega, hcnt, ⟨fun h => by omega, fun h => absurd h hneF⟩⟩ (fun _ => ?_)
                  · rw [xup_at, xup_ne (by decide), e31, g4, q2, hcnt, nI_1]
                  · rw [xup_ne (by decide), xup_at, hF1, hv]
                refine bX1_findFits_39 (fun c5 => ?_) (fun c5 => ?_)
                · rw [e31, g4, q2] at c5
                  have hq0 : ¬ q = 0 := fun h => c5 (by rw [h]; rfl)
                  refine bX1_findFits_57 ?_
                  exact f61 _ (by rw [if_neg hq0, e31]; exact g5 (fun h => hq0 (q3.mpr h)))
                · rw [e31, g4, q2] at c5
                  have hq0 : q = 0 := (nI_eq (b := 0) (by omega) (by omega)).mp c5
                  refine bX1_findFits_47 ?_
                  exact f61 _ (by rw [if_pos hq0, e100])
        obtain ⟨q, q1, q2, q3⟩ := hq
        refine inner (b + 2) 0 im1 (by omega) (by omega) hk (by rw [h4]; exact (Int32.add_zero _).symm) ⟨q, by omega, (Int32.add_zero _).trans q2, ?_⟩ ?_
        · rw [q3]
          show _ ↔ (if ¬ totF C b = -1 then totF C b else -1) = -1
          by_cases h1 : totF C b = -1
          · rw [if_neg (not_not_intro h1)]; exact ⟨fun _ => rfl, fun _ => h1⟩
          · rw [if_pos h1]
        · show ¬ (if ¬ totF C b = -1 then totF C b else -1) = -1 → _ = if ¬ totF C b = -1 then totF C b else -1
          by_cases h1 : totF C b = -1
          · rw [if_neg (not_not_intro h1)]; exact fun h => absurd rfl h
          · rw [if_pos h1]; exact h5
  refine bX1_findFits_0 ?_
  exact outer 13 0 _ (by omega) (by omega) ((kF.rf.up (by omega)).up (by omega)) (by rw [xup_ne (by decide), xup_at]; rfl) ⟨0, by omega, rfl, ⟨fun _ => rfl, fun _ => rfl⟩⟩ (fun h => absurd rfl h)
theorem pX9_commonDivisor {d : Nat} {im : XI} {S : XS} {n m : Nat} {a c : Int32} (ha : a = nI n) (hc : c = nI m) (hn : n ≤ 99) (hm : m ≤ 99) : SpI mX9_commonDivisor d [.int a, .int c] S im (fun x im' => x = nI (Nat.gcd m n) ∧ im = im') := by
  refine SpI.of [some (.int a), some (.int c), none, none, none, none] rfl (by decide) rfl (fun Q hQ => ?_)
  subst ha; subst hc
  have key : ∀ (g k hi lo : Nat), 99 = k + g → (lo = 0 ∨ lo + k ≤ 99) → hi ≤ 99 → lo ≤ 99 → Nat.gcd lo hi = Nat.gcd m n → V mX9_commonDivisor d (0, 0) 7 [some (.int (nI n)), some (.int (nI m)), some (.int (nI hi)), some (.int (nI lo)), some (.int (nI k)), none] [] S im Q := by
    intro g
    induction g with
    | zero =>
      intro k hi lo a1 a2 a3 a4 hg
      obtain rfl : k = 99 := by omega
      obtain rfl : lo = 0 := by omega
      refine bX9_commonDivisor_7 (fun _ => ?_) (fun c => absurd (by decide) c)
      refine bX9_commonDivisor_34 ?_
      rw [Nat.gcd_zero_left] at hg
      exact hQ _ _ ⟨by rw [hg], rfl⟩
    | succ g ih =>
      intro k hi lo a1 a2 a3 a4 hg
      refine bX9_commonDivisor_7 (fun c => absurd (ge_i (a := 99) (by omega) (by omega) c) (by omega)) (fun _ => ?_)
      refine bX9_commonDivisor_14 (fun c => ?_) (fun c => ?_)
      · rw [nI_le0 (by omega)] at c
        subst c
        refine bX9_commonDivisor_34 ?_
        rw [Nat.gcd_zero_left] at hg
        exact hQ _ _ ⟨by rw [hg], rfl⟩
      · rw [nI_le0 (by omega)] at c
        refine bX9_commonDivisor_18 (nI_ne0 (by omega) (by omega)) ?_
        rw [pk_rem (by omega) (by omega) (by omega), nI_1]
        have hmod := Nat.mod_lt hi (show 0 < lo by omega)
        refine ih (k + 1) lo (hi % lo) (by omega) (by omega) a4 (by omega) ?_
        rw [← hg]
        exact (Nat.gcd_rec lo hi).symm
  refine bX9_commonDivisor_0 ?_
  exact key 99 0 n m rfl (by omega) hn hm rfl

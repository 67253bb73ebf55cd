theorem pX7_isMissing {d : Nat} {im : XI} {S : XS} {a : Nat} (hK : S.1[a]? = some (.inl 7)) : SpI mX7_isMissing d [.ref a] S im (fun x im' => x = b2i (im a 1 = 0) ∧ im = im') := by
  refine SpI.of [some (.ref a)] rfl (by decide) rfl (fun Q hQ => ?_)
  refine bX7_isMissing_0 hK (fun h => ?_) (fun h => ?_)
  · refine bX7_isMissing_11 ?_
    refine bX7_isMissing_12 (Or.inl rfl) ?_
    exact hQ _ _ ⟨(b2i_f h).symm, rfl⟩
  · refine bX7_isMissing_7 ?_
    refine bX7_isMissing_12 (Or.inr rfl) ?_
    exact hQ _ _ ⟨(b2i_t h).symm, rfl⟩
theorem pX7_lowestBits {d : Nat} {im : XI} {S : XS} {a : Nat} {v : Int32} (hK : S.1[a]? = some (.inl 7)) : SpI mX7_lowestBits d [.ref a, .int v] S im (fun x im' => x = lowC v (im a 1) ∧ im = im') := by
  refine SpI.of [some (.ref a), some (.int v)] rfl (by decide) rfl (fun Q hQ => ?_)
  refine bX7_lowestBits_0 hK (fun h => ?_) (fun h => ?_) (fun h h2 => ?_)
  · refine bX7_lowestBits_32 ?_
    exact hQ _ _ ⟨by unfold lowC; rw [if_pos h], rfl⟩
  · refine bX7_lowestBits_38 ?_
    exact hQ _ _ ⟨by unfold lowC; rw [if_neg (by rw [h]; decide), if_pos h], rfl⟩
  · refine bX7_lowestBits_43 ?_
    exact hQ _ _ ⟨by unfold lowC; rw [if_neg h, if_neg h2], rfl⟩
theorem pX6_change {d : Nat} {im : XI} {S : XS} {r a n : Nat} {c k : Nat} {v w : Int32} (hK : S.1[r]? = some (.inl 6)) (hA : S.2 r 0 = some a) (hX : XA S a n) (hf : im r 1 = nI c) (hc : c ≤ n) (hv : v = nI k) (hk : k < c) : SpV mX6_change d [.ref r, .int v, .int w] S im (fun im' => im' = xup im a k w) := by
  refine SpV.of [some (.ref r), some (.int v), some (.int w)] rfl (by decide) rfl (fun Q hQ => ?_)
  have hn : n < 100000 := Nat.le_of_ble_eq_true hX.2
  subst hv
  refine bX6_change_0 (fun h => absurd h (nI_pos (by omega))) (fun _ => ?_)
  refine bX6_change_4 hK (fun h => ?_) (fun h => ?_)
  · rw [hf] at h
    exact absurd (ge_i (by omega) (by omega) h) (by omega)
  · refine bX6_change_12 hK hA hX rfl (by omega) ?_
    refine bX6_change_19 ?_
    exact hQ _ rfl
theorem pX7_renew {d : Nat} {im : XI} {S : XS} {b r a n m : Nat} {t v : Int32} (hB : S.1[b]? = some (.inl 7)) (hBr : S.2 b 0 = some r) (hK : S.1[r]? = some (.inl 6)) (hA : S.2 r 0 = some a) (hX : XA S a n) (hv : v = nI m) (hm : m ≤ n) (hbr : b ≠ r) (hba : b ≠ a) : SpV mX7_renew (d + 2) [.ref b, .int t, .int v] S im (fun im' => im' b 1 = t ∧ im' r 1 = nI m ∧ (∀ j, j < m → im' a j = 0) ∧ ∀ q, q ≠ b → q ≠ r → q ≠ a → im' q = im q) := by
  refine SpV.of [some (.ref b), some (.int t), some (.int v)] rfl (by decide) rfl (fun Q hQ => ?_)
  refine bX7_renew_0 hB hBr hK (pX6_beZeros hK hA hX hv hm) ?_
  rintro im1 ⟨e1, e2, e3⟩
  refine bX7_renew_13 ?_
  refine hQ _ ⟨?_, e1, e2, fun q h1 h2 h3 => ?_⟩
  · rw [e3 b 1 (fun h => hba h.1) (fun h => hbr h.1), xup_at]
  · funext k
    rw [e3 q k (fun h => h3 h.1) (fun h => h2 h.1), xup_o h1]
theorem pX9_sheet {d : Nat} {im : XI} {bo : Bool} {s : Nat → Int32} {np nd : Nat} {bs ss nu : Nat → Int32} {z0 t n : Int32} (hR : RI 0 s im) (hI : Iv s np nd) (hS : SR bs ss nu im) (hSI : SI bs ss) : SpI mX9_sheet (d + 3) [.ref 0, .int z0, .int t, .int n] (SC bo) im (fun x im' => opSheetC im s bs ss nu z0 t n x im') := by
  refine SpI.of [some (.ref 0), some (.int z0), some (.int t), some (.int n)] rfl (by decide) rfl (fun Q hQ => ?_)
  refine bX9_sheet_0 pX9_isSheet ?_
  rintro x0 im1 ⟨hx, hm⟩
  subst hm
  have bad : ¬ (okSh z0 ∧ okBits t) → V mX9_sheet (d + 3) (0, 0) 29 [some (.ref 0), some (.int z0), some (.int t), some (.int n)] [] (SC bo) im Q := by
    intro h
    refine bX9_sheet_29 (pX9_fail (k := 1) (by decide) (by decide) (by decide)) ?_
    rintro _ _ ⟨rfl, rfl⟩
    refine bX9_sheet_35 ?_
    refine hQ _ _ ?_
    unfold opSheetC
    rw [if_pos h]
    exact Pc.er hI rfl hR kK.rf (by decide)
  refine bX9_sheet_4 (fun c => ?_) (fun c => ?_)
  · rw [hx, b2i_z] at c
    exact bad (fun h => c h.1)
  rw [hx, b2i_nz] at c
  have go : okBits t → V mX9_sheet (d + 3) (0, 0) 36 [some (.ref 0), some (.int z0), some (.int t), some (.int n)] [] (SC bo) im Q := by
    intro hb
    have hc : okSh z0 ∧ okBits t := ⟨c, hb⟩
    obtain ⟨z, hz3, rfl⟩ := (in_c (x := z0) (n := 3) rfl (by decide)).mp c
    have hz4 : z < 4 := by omega
    have hzn : nnat (nI z) = z := nnat_nI (by omega)
    have go2 : ¬ (¬ t = 0 ∧ n < 0) → V mX9_sheet (d + 3) (0, 0) 51 [some (.ref 0), some (.int (nI z)), some (.int t), some (.int n)] [] (SC bo) im Q := by
      intro h1
      have go3 : ¬ (¬ t = 0 ∧ 24 < n) → V mX9_sheet (d + 3) (0, 0) 68 [some (.ref 0), some (.int (nI z)), some (.int t), some (.int n)] [] (SC bo) im Q := by
        intro h2
        obtain ⟨m, hm, hmv⟩ : ∃ m : Nat, m ≤ 24 ∧ (if t = 0 then 0 else n) = nI m := by
          by_cases ht : t = 0
          · exact ⟨0, by omega, by rw [if_pos ht]; rfl⟩
          · rw [if_neg ht]
            exact (in_c (x := n) (y := 24) (n := 24) rfl (by decide)).mp ⟨by rw [i_le]; have : ¬ n < 0 := fun h => h1 ⟨ht, h⟩; rw [i_lt] at this; omega, by rw [i_le]; have : ¬ 24 < n := fun h => h2 ⟨ht, h⟩; rw [i_lt] at this; omega⟩
        have e84 : ∀ v, v = (if t = 0 then 0 else n) → V mX9_sheet (d + 3) (0, 0) 84 [some (.ref 0), some (.int (nI z)), some (.int t), some (.int n)] [.int v, .int t, .ref (38 + 3 * z)] (SC bo) im Q := by
          intro v hv
          refine bX9_sheet_84 (xsheet hz4) (pX7_renew (xsheet hz4) (xsheetR hz4) (xsheetRow hz4) (xsheetRowR hz4) (xsheetA hz4) (hv.trans hmv) hm (by omega) (by omega)) ?_
          rintro im2 ⟨r1, r2, r3, r4⟩
          refine bX9_sheet_87 ?_
          refine hQ _ _ ?_
          unfold opSheetC
          rw [if_neg (not_not_intro hc), if_neg h1, if_neg h2, hzn]
          refine ⟨rfl, hR.ext hI (fun a _ _ _ _ => r4 a (by omega) (by omega) (by omega)), ?_, fun a k ha => by rw [r4 a (by omega) (by omega) (by omega)]⟩
          intro y hy
          by_cases hyz : y = z
          · subst hyz
            refine ⟨by rw [r1, upd_at], by rw [r2, upd_at, hmv], fun m' hm24 hm' k hk => ?_⟩
            rw [upd_at, hmv] at hm'
            obtain rfl := (nI_eq (by omega) (by omega)).mp hm'
            rw [r3 k hk]
            unfold clr
            rw [if_pos (by omega)]
            exact nmR.rf
          · obtain ⟨y1, y2, y3⟩ := hS y hy
            refine ⟨by rw [r4 _ (by omega) (by omega) (by omega), upd_ne hyz]; exact y1, by rw [r4 _ (by omega) (by omega) (by omega), upd_ne hyz]; exact y2, fun m' hm24 hm' k hk => ?_⟩
            rw [upd_ne hyz] at hm'
            rw [r4 _ (by omega) (by omega) (by omega)]
            have := y3 m' hm24 hm' k hk
            unfold clr
            rw [if_neg (by omega)]
            exact this
        refine bX9_sheet_68 rfl hz4 (fun c5 => ?_) (fun c5 => ?_)
        · exact bX9_sheet_83 (e84 _ (if_neg c5).symm)
        · exact bX9_sheet_79 (e84 _ (if_pos c5).symm)
      refine bX9_sheet_51 (fun c5 => go3 (fun h => h.1 c5)) (fun c5 => ?_)
      refine bX9_sheet_55 (fun c6 => go3 (fun h => absurd c6 (by rw [i_le]; have := h.2; rw [i_lt] at this; omega))) (fun c6 => ?_)
      have c7 : (24 : Int32) < n := by rw [i_lt]; rw [i_le] at c6; omega
      refine bX9_sheet_61 (pX9_fail (k := 1) (by decide) (by decide) (by decide)) ?_
      rintro _ _ ⟨rfl, rfl⟩
      refine bX9_sheet_67 ?_
      refine hQ _ _ ?_
      unfold opSheetC
      rw [if_neg (not_not_intro hc), if_neg h1, if_pos ⟨c5, c7⟩]
      exact Pc.er hI rfl hR kK.rf (by decide)
    refine bX9_sheet_36 (fun c5 => go2 (fun h => h.1 c5)) (fun c5 => ?_)
    refine bX9_sheet_40 (fun c6 => go2 (fun h => absurd c6 (by rw [i_le]; have := h.2; rw [i_lt] at this; omega))) (fun c6 => ?_)
    have c7 : n < (0 : Int32) := by rw [i_lt]; rw [i_le] at c6; omega
    refine bX9_sheet_44 (pX9_fail (k := 3) (by decide) (by decide) (by decide)) ?_
    rintro _ _ ⟨rfl, rfl⟩
    refine bX9_sheet_50 ?_
    refine hQ _ _ ?_
    unfold opSheetC
    rw [if_neg (not_not_intro hc), if_pos ⟨c5, c7⟩]
    exact Pc.er hI rfl hR kK.rf (by decide)
  refine bX9_sheet_7 (fun c1 => go (Or.inl c1)) (fun c1 => ?_)
  refine bX9_sheet_11 (fun c2 => go (Or.inr (Or.inl c2))) (fun c2 => ?_)
  refine bX9_sheet_17 (fun c3 => go (Or.inr (Or.inr (Or.inl c3)))) (fun c3 => ?_)
  refine bX9_sheet_23 (fun c4 => go (Or.inr (Or.inr (Or.inr c4)))) (fun c4 => ?_)
  exact bad (fun h => by rcases h.2 with h | h | h | h <;> contradiction)
theorem pX9_put {d : Nat} {im : XI} {bo : Bool} {s : Nat → Int32} {np nd : Nat} {bs ss nu : Nat → Int32} {z0 i v : Int32} (hR : RI 0 s im) (hI : Iv s np nd) (hS : SR bs ss nu im) (hSI : SI bs ss) : SpI mX9_put (d + 2) [.ref 0, .int z0, .int i, .int v] (SC bo) im (fun x im' => opPutC im s bs ss nu z0 i v x im') := by
  refine SpI.of [some (.ref 0), some (.int z0), some (.int i), some (.int v), none] rfl (by decide) rfl (fun Q hQ => ?_)
  refine bX9_put_0 pX9_isSheet ?_
  rintro x0 im1 ⟨hx, hm⟩
  subst hm
  refine bX9_put_4 (fun c => ?_) (fun c => ?_)
  rotate_left
  · rw [hx, b2i_z] at c
    refine bX9_put_7 (pX9_fail (k := 1) (by decide) (by decide) (by decide)) ?_
    rintro _ _ ⟨rfl, rfl⟩
    refine bX9_put_13 ?_
    refine hQ _ _ ?_
    unfold opPutC
    rw [if_pos c]
    exact Pc.er hI rfl hR kK.rf (by decide)
  rw [hx, b2i_nz] at c
  obtain ⟨z, hz3, rfl⟩ := (in_c (x := z0) (n := 3) rfl (by decide)).mp c
  have hz4 : z < 4 := by omega
  have hzn : nnat (nI z) = z := nnat_nI (by omega)
  obtain ⟨s1, s2, s3⟩ := hS z hz4
  obtain ⟨hbz, m, hm, hmz⟩ := hSI z hz4
  have hmn : nnat (nI m) = m := nnat_nI (by omega)
  refine bX9_put_14 rfl hz4 (pX7_isMissing (xsheet hz4)) ?_
  rintro x1 im1 ⟨hx1, hm1⟩
  subst hm1
  rw [s1] at hx1
  refine bX9_put_27 (fun c2 => ?_) (fun c2 => ?_)
  rotate_left
  · rw [hx1, b2i_nz] at c2
    refine bX9_put_30 (pX9_fail (k := 2) (by decide) (by decide) (by decide)) ?_
    rintro _ _ ⟨rfl, rfl⟩
    refine bX9_put_36 ?_
    refine hQ _ _ ?_
    unfold opPutC
    rw [if_neg (not_not_intro c), hzn, if_pos c2]
    exact Pc.er hI rfl hR kK.rf (by decide)
  rw [hx1, b2i_z] at c2
  refine bX9_put_37 (xsheet hz4) (xsheetR hz4) (xsheetRow hz4) (pX6_size (xsheetRow hz4)) ?_
  rintro _ _ ⟨rfl, rfl⟩
  rw [s2]
  refine bX9_put_47 pX9_within ?_
  rintro x2 im1 ⟨hx2, hm2⟩
  subst hm2
  refine bX9_put_52 (fun c3 => ?_) (fun c3 => ?_)
  rotate_left
  · rw [hx2, b2i_z] at c3
    refine bX9_put_55 (pX9_fail (k := 1) (by decide) (by decide) (by decide)) ?_
    rintro _ _ ⟨rfl, rfl⟩
    refine bX9_put_61 ?_
    refine hQ _ _ ?_
    unfold opPutC
    rw [if_neg (not_not_intro c), hzn, if_neg c2, if_pos c3]
    exact Pc.er hI rfl hR kK.rf (by decide)
  rw [hx2, b2i_nz] at c3
  obtain ⟨k, hk, rfl⟩ := (in_n (n := m) (by omega)).mp (show 0 ≤ i ∧ i ≤ nI m - 1 by rw [← hmz]; exact c3)
  refine bX9_put_62 (xsheet hz4) (xsheetR hz4) (pX7_lowestBits (xsheet hz4)) ?_
  rintro _ _ ⟨rfl, rfl⟩
  rw [s1]
  refine bX9_put_74 (xsheetRow hz4) (pX6_change (xsheetRow hz4) (xsheetRowR hz4) (xsheetA hz4) (s2.trans hmz) hm rfl hk) ?_
  rintro _ rfl
  refine bX9_put_77 ?_
  refine hQ _ _ ?_
  unfold opPutC
  rw [if_neg (not_not_intro c), hzn, if_neg c2, if_neg (not_not_intro c3), nnat_nI (n := k) (by omega)]
  refine ⟨rfl, hR.ext hI (fun a _ _ _ _ => xup_o (by omega)), ?_, fun a i ha => by rw [xup_o (by omega)]⟩
  intro y hy
  obtain ⟨y1, y2, y3⟩ := hS y hy
  refine ⟨by rw [xup_o (by omega)]; exact y1, by rw [xup_o (by omega)]; exact y2, fun m' hm24 hm' q hq => ?_⟩
  by_cases e : y = z ∧ q = k
  · obtain ⟨rfl, rfl⟩ := e
    rw [xup_at, upd_at]
    exact low_nm v hbz c2
  · have h1 : xup im (40 + 3 * z) k (lowC v (bs z)) (40 + 3 * y) q = im (40 + 3 * y) q := by
      simp only [xup]
      rw [if_neg (fun h => e ⟨by omega, h.2⟩)]
    rw [h1, upd_ne (fun h => e ⟨by omega, by omega⟩)]
    exact y3 m' hm24 hm' q hq

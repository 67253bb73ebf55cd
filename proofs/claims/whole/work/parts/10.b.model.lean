theorem qX10_its {d : Nat} {im : XI} {s : Nat → Int32} {x0 y0 : Int32} {p w i : Nat} (hs : im 1 = s) (hx : x0 = nI p) (hy : y0 = nI w) (hi : 8 + w + 4 * p = i) (h : i < 384) : SpI mX10_its d [.ref 0, .int x0, .int y0] SM im (fun x im' => x = s i ∧ im = im') := by subst hs; exact pX10_its hx hy hi h
theorem qX10_ofDoing {d : Nat} {im : XI} {s : Nat → Int32} {x0 y0 : Int32} {p w i : Nat} (hs : im 1 = s) (hx : x0 = nI p) (hy : y0 = nI w) (hi : 32 + w + 3 * p = i) (h : i < 384) : SpI mX10_ofDoing d [.ref 0, .int x0, .int y0] SM im (fun x im' => x = s i ∧ im = im') := by subst hs; exact pX10_ofDoing hx hy hi h
theorem qX10_lays1 {d : Nat} {im : XI} {s : Nat → Int32} {x0 y0 z0 : Int32} {p w i : Nat} (hs : im 1 = s) (hx : x0 = nI p) (hy : y0 = nI w) (hi : 8 + w + 4 * p = i) (h : i < 384) : SpV mX10_lays1 d [.ref 0, .int x0, .int y0, .int z0] SM im (fun im' => im' 1 = upd s i z0 ∧ mk im im') := by subst hs; exact SpV.mono (fun im' h => by subst h; exact ⟨xup_s, mk.rf.up (Or.inl rfl)⟩) (pX10_lays1 hx hy hi h)
theorem qX10_laysDoing {d : Nat} {im : XI} {s : Nat → Int32} {x0 y0 z0 : Int32} {p w i : Nat} (hs : im 1 = s) (hx : x0 = nI p) (hy : y0 = nI w) (hi : 32 + w + 3 * p = i) (h : i < 384) : SpV mX10_laysDoing d [.ref 0, .int x0, .int y0, .int z0] SM im (fun im' => im' 1 = upd s i z0 ∧ mk im im') := by subst hs; exact SpV.mono (fun im' h => by subst h; exact ⟨xup_s, mk.rf.up (Or.inl rfl)⟩) (pX10_laysDoing hx hy hi h)
theorem qX10_change1 {d : Nat} {im : XI} {s : Nat → Int32} {x0 z0 : Int32} {i : Nat} (hs : im 1 = s) (hx : x0 = nI i) (h : i < 384) : SpI mX10_change1 d [.ref 0, .int x0, .int z0] SM im (fun x im' => x = s i ∧ im' 1 = upd s i z0 ∧ mk im im') := by subst hs; exact SpI.mono (fun x im' h => by obtain ⟨rfl, rfl⟩ := h; exact ⟨rfl, xup_s, mk.rf.up (Or.inl rfl)⟩) (pX10_change1 hx h)
theorem pX10_copyAll {d : Nat} {im : XI} {S : XS} {a0 a1 : Nat} (hne : a0 ≠ a1) (h0 : XA S a0 384) (h1 : XA S a1 384) : SpV mX10_copyAll d [.ref a0, .ref a1] S im (fun im' => im' = ovl im a1 a0 384) := by
  refine SpV.of [some (.ref a0), some (.ref a1), none] rfl (by decide) rfl (fun Q hQ => ?_)
  have key : ∀ (n i : Nat) , 384 < i + n → i ≤ 384 → V mX10_copyAll d (0, 0) 2 [some (.ref a0), some (.ref a1), some (.int (nI i))] [] S (ovl im a1 a0 i) Q := by
    intro n
    induction n with
    | zero => intro i  hn1 hn2; omega
    | succ n ih =>
      intro i  hn1 hn2 
      refine bX10_copyAll_2   (fun c1 => ?_) (fun c1 => ?_)
      · skip
        have hE : 384 ≤ i := ge_i (a := 384) (b := i) (by omega) (by omega) c1
        refine bX10_copyAll_21   ?_
        have : i = 384 := by omega
        subst this
        exact hQ _ rfl
      · skip
        have hB : i < 384 := lt_i (a := 384) (b := i) (by omega) (by omega) c1
        refine bX10_copyAll_9  h0 (by rfl) (by omega) h1 (by omega) ?_
        rw [nI_1, ovl_s hne]
        exact ih (i + 1) (by omega) (by omega)
  refine bX10_copyAll_0 ?_
  rw [← ovl_0 (im := im) (a1 := a1) (a0 := a0)]
  exact key 385 0 (by omega) (by omega)
theorem pX10_layDown {d : Nat} {im : XI}   : SpV mX10_layDown d [.ref 0] SM im (fun im' => im' = ovl im 3 1 50) := by
  refine SpV.of [some (.ref 0), none] rfl (by decide) rfl (fun Q hQ => ?_)
  have key : ∀ (n i : Nat) , 50 < i + n → i ≤ 50 → V mX10_layDown d (0, 0) 2 [some (.ref 0), some (.int (nI i))] [] SM (ovl im 3 1 i) Q := by
    intro n
    induction n with
    | zero => intro i  hn1 hn2; omega
    | succ n ih =>
      intro i  hn1 hn2 
      refine bX10_layDown_2   (fun c1 => ?_) (fun c1 => ?_)
      · skip
        have hE : 50 ≤ i := ge_i (a := 50) (b := i) (by omega) (by omega) c1
        refine bX10_layDown_26   ?_
        have : i = 50 := by omega
        subst this
        exact hQ _ rfl
      · skip
        have hB : i < 50 := lt_i (a := 50) (b := i) (by omega) (by omega) c1
        refine bX10_layDown_8  (by rfl) (by omega) (by omega) ?_
        rw [nI_1, ovl_s (by decide)]
        exact ih (i + 1) (by omega) (by omega)
  refine bX10_layDown_0 ?_
  rw [← ovl_0 (im := im) (a1 := 3) (a0 := 1)]
  exact key 51 0 (by omega) (by omega)
theorem pX10_layBack {d : Nat} {im : XI}   : SpV mX10_layBack d [.ref 0] SM im (fun im' => im' = ovl im 1 3 50) := by
  refine SpV.of [some (.ref 0), none] rfl (by decide) rfl (fun Q hQ => ?_)
  have key : ∀ (n i : Nat) , 50 < i + n → i ≤ 50 → V mX10_layBack d (0, 0) 2 [some (.ref 0), some (.int (nI i))] [] SM (ovl im 1 3 i) Q := by
    intro n
    induction n with
    | zero => intro i  hn1 hn2; omega
    | succ n ih =>
      intro i  hn1 hn2 
      refine bX10_layBack_2   (fun c1 => ?_) (fun c1 => ?_)
      · skip
        have hE : 50 ≤ i := ge_i (a := 50) (b := i) (by omega) (by omega) c1
        refine bX10_layBack_26   ?_
        have : i = 50 := by omega
        subst this
        exact hQ _ rfl
      · skip
        have hB : i < 50 := lt_i (a := 50) (b := i) (by omega) (by omega) c1
        refine bX10_layBack_8  (by rfl) (by omega) (by omega) ?_
        rw [nI_1, ovl_s (by decide)]
        exact ih (i + 1) (by omega) (by omega)
  refine bX10_layBack_0 ?_
  rw [← ovl_0 (im := im) (a1 := 1) (a0 := 3)]
  exact key 51 0 (by omega) (by omega)
theorem pX10_manyIn {d : Nat} {im : XI} {S : XS} {v : Int32}  : SpI mX10_manyIn d [.int v] S im (fun x im' => x = many0 v 6 ∧ im = im') := by
  refine SpI.of [some (.int v), none, none] rfl (by decide) rfl (fun Q hQ => ?_)
  have key : ∀ (n i : Nat) , 6 < i + n → i ≤ 6 → V mX10_manyIn d (0, 0) 4 [some (.int v), some (.int (many0 v i)), some (.int (nI i))] [] S im Q := by
    intro n
    induction n with
    | zero => intro i  hn1 hn2; omega
    | succ n ih =>
      intro i  hn1 hn2 
      refine bX10_manyIn_4   (fun c1 => ?_) (fun c1 => ?_)
      · skip
        have hE : 6 ≤ i := ge_i (a := 6) (b := i) (by omega) (by omega) c1
        refine bX10_manyIn_24   ?_
        have : i = 6 := by omega
        subst this
        exact hQ _ _ ⟨rfl, rfl⟩
      · skip
        have hB : i < 6 := lt_i (a := 6) (b := i) (by omega) (by omega) c1
        refine bX10_manyIn_10   ?_
        rw [nI_1]
        exact ih (i + 1) (by omega) (by omega)
  refine bX10_manyIn_0 ?_
  exact key 7 0 (by omega) (by omega)
theorem pX10_blinksNow {d : Nat} {im : XI} {s : Nat → Int32} {p : Nat} (hs : im 1 = s) (hp : p < 6) (hb : ¬ s (10 + 4 * p) = 0) : SpI mX10_blinksNow (d + 1) [.ref 0, .int (nI p)] SM im (fun x im' => x = blinks0 (s (8 + 4 * p)) (s (9 + 4 * p)) (s 0) (rest0 (s 0) (s (11 + 4 * p)) (s (10 + 4 * p))) ∧ im = im') := by
  refine SpI.of [some (.ref 0), some (.int (nI p)), none, none, none, none] rfl (by decide) rfl (fun Q hQ => ?_)
  subst hs
  refine bX10_blinksNow_0   (qX10_its (w := 1) (i := 9 + 4 * _) rfl rfl rfl rfl (by omega)) ?_
  rintro _ _ ⟨rfl, rfl⟩
  refine bX10_blinksNow_13   (qX10_its (w := 3) (i := 11 + 4 * _) rfl rfl rfl rfl (by omega)) ?_
  rintro _ _ ⟨rfl, rfl⟩
  refine bX10_blinksNow_21   (qX10_its (w := 2) (i := 10 + 4 * _) rfl rfl rfl rfl (by omega)) ?_
  rintro _ _ ⟨rfl, rfl⟩
  refine bX10_blinksNow_28  (by first | assumption | rfl | omega | decide) (fun c4 => ?_) (fun c4 => ?_)
  · skip
    refine bX10_blinksNow_49   ?_
    refine bX10_blinksNow_50   (qX10_its (w := 0) (i := 8 + 4 * _) rfl rfl rfl rfl (by omega)) ?_
    rintro _ _ ⟨rfl, rfl⟩
    refine bX10_blinksNow_58   (fun c6 => ?_) (fun c6 => ?_) (fun c6 => ?_) (fun c6 => ?_) (fun c6 => ?_) (fun c6_0 c6_1 c6_2 c6_3 c6_4 => ?_)
    · skip
      refine bX10_blinksNow_92  (by first | exact b2i_01 _ | assumption | decide) ?_
      exact hQ _ _ ⟨by first | (simp_all [blinks0, deaf0, rest0, jrem]; done) | exact bl_3n (by assumption) (by assumption), rfl⟩
    · skip
      refine bX10_blinksNow_95   (fun c7 => ?_) (fun c7 => ?_)
      · skip
        refine bX10_blinksNow_105   ?_
        refine bX10_blinksNow_106  (by first | exact b2i_01 _ | assumption | decide) ?_
        exact hQ _ _ ⟨by first | (simp_all [blinks0, deaf0, rest0, jrem]; done) | exact bl_3n (by assumption) (by assumption), rfl⟩
      · skip
        refine bX10_blinksNow_101   ?_
        refine bX10_blinksNow_106  (by first | exact b2i_01 _ | assumption | decide) ?_
        exact hQ _ _ ⟨by first | (simp_all [blinks0, deaf0, rest0, jrem]; done) | exact bl_3n (by assumption) (by assumption), rfl⟩
    · skip
      refine bX10_blinksNow_107   (fun c8 => ?_) (fun c8 => ?_)
      · skip
        refine bX10_blinksNow_120   ?_
        refine bX10_blinksNow_125  (by first | exact b2i_01 _ | assumption | decide) ?_
        exact hQ _ _ ⟨by first | (simp_all [blinks0, deaf0, rest0, jrem]; done) | exact bl_3n (by assumption) (by assumption), rfl⟩
      · skip
        refine bX10_blinksNow_112   (fun c9 => ?_) (fun c9 => ?_)
        · skip
          refine bX10_blinksNow_124   ?_
          refine bX10_blinksNow_125  (by first | exact b2i_01 _ | assumption | decide) ?_
          exact hQ _ _ ⟨by first | (simp_all [blinks0, deaf0, rest0, jrem]; done) | exact bl_3n (by assumption) (by assumption), rfl⟩
        · skip
          refine bX10_blinksNow_120   ?_
          refine bX10_blinksNow_125  (by first | exact b2i_01 _ | assumption | decide) ?_
          exact hQ _ _ ⟨by first | (simp_all [blinks0, deaf0, rest0, jrem]; done) | exact bl_3n (by assumption) (by assumption), rfl⟩
    · skip
      refine bX10_blinksNow_126   (fun c10 => ?_) (fun c10 => ?_)
      · skip
        refine bX10_blinksNow_141   ?_
        refine bX10_blinksNow_142  (by first | exact b2i_01 _ | assumption | decide) ?_
        exact hQ _ _ ⟨by first | (simp_all [blinks0, deaf0, rest0, jrem]; done) | exact bl_3n (by assumption) (by assumption), rfl⟩
      · skip
        refine bX10_blinksNow_131   (fun c11 => ?_) (fun c11 => ?_)
        · skip
          refine bX10_blinksNow_141   ?_
          refine bX10_blinksNow_142  (by first | exact b2i_01 _ | assumption | decide) ?_
          exact hQ _ _ ⟨by first | (simp_all [blinks0, deaf0, rest0, jrem]; done) | exact bl_3n (by assumption) (by assumption), rfl⟩
        · skip
          refine bX10_blinksNow_137   ?_
          refine bX10_blinksNow_142  (by first | exact b2i_01 _ | assumption | decide) ?_
          exact hQ _ _ ⟨by first | (simp_all [blinks0, deaf0, rest0, jrem]; done) | exact bl_3n (by assumption) (by assumption), rfl⟩
    · skip
      refine bX10_blinksNow_143   (fun c12 => ?_) (fun c12 => ?_)
      · skip
        refine bX10_blinksNow_159   ?_
        refine bX10_blinksNow_164  (by first | exact b2i_01 _ | assumption | decide) ?_
        exact hQ _ _ ⟨by first | (simp_all [blinks0, deaf0, rest0, jrem]; done) | exact bl_3n (by assumption) (by assumption), rfl⟩
      · skip
        refine bX10_blinksNow_148   (fun c13 => ?_) (fun c13 => ?_)
        · skip
          refine bX10_blinksNow_163   ?_
          refine bX10_blinksNow_164  (by first | exact b2i_01 _ | assumption | decide) ?_
          exact hQ _ _ ⟨by first | (simp_all [blinks0, deaf0, rest0, jrem]; done) | exact bl_3n (by assumption) (by assumption), rfl⟩
        · skip
          refine bX10_blinksNow_159   ?_
          refine bX10_blinksNow_164  (by first | exact b2i_01 _ | assumption | decide) ?_
          exact hQ _ _ ⟨by first | (simp_all [blinks0, deaf0, rest0, jrem]; done) | exact bl_3n (by assumption) (by assumption), rfl⟩
    · skip
      refine bX10_blinksNow_165   (fun c14 => ?_) (fun c14 => ?_)
      · skip
        refine bX10_blinksNow_174   ?_
        refine bX10_blinksNow_175  (by first | exact b2i_01 _ | assumption | decide) ?_
        exact hQ _ _ ⟨by first | (simp_all [blinks0, deaf0, rest0, jrem]; done) | exact bl_3n (by assumption) (by assumption), rfl⟩
      · skip
        refine bX10_blinksNow_170   ?_
        refine bX10_blinksNow_175  (by first | exact b2i_01 _ | assumption | decide) ?_
        exact hQ _ _ ⟨by first | (simp_all [blinks0, deaf0, rest0, jrem]; done) | exact bl_3n (by assumption) (by assumption), rfl⟩
  · skip
    refine bX10_blinksNow_36   (fun c15 => ?_) (fun c15 => ?_)
    · skip
      refine bX10_blinksNow_49   ?_
      refine bX10_blinksNow_50   (qX10_its (w := 0) (i := 8 + 4 * _) rfl rfl rfl rfl (by omega)) ?_
      rintro _ _ ⟨rfl, rfl⟩
      refine bX10_blinksNow_58   (fun c17 => ?_) (fun c17 => ?_) (fun c17 => ?_) (fun c17 => ?_) (fun c17 => ?_) (fun c17_0 c17_1 c17_2 c17_3 c17_4 => ?_)
      · skip
        refine bX10_blinksNow_92  (by first | exact b2i_01 _ | assumption | decide) ?_
        exact hQ _ _ ⟨by first | (simp_all [blinks0, deaf0, rest0, jrem]; done) | exact bl_3n (by assumption) (by assumption), rfl⟩
      · skip
        refine bX10_blinksNow_95   (fun c18 => ?_) (fun c18 => ?_)
        · skip
          refine bX10_blinksNow_105   ?_
          refine bX10_blinksNow_106  (by first | exact b2i_01 _ | assumption | decide) ?_
          exact hQ _ _ ⟨by first | (simp_all [blinks0, deaf0, rest0, jrem]; done) | exact bl_3n (by assumption) (by assumption), rfl⟩
        · skip
          refine bX10_blinksNow_101   ?_
          refine bX10_blinksNow_106  (by first | exact b2i_01 _ | assumption | decide) ?_
          exact hQ _ _ ⟨by first | (simp_all [blinks0, deaf0, rest0, jrem]; done) | exact bl_3n (by assumption) (by assumption), rfl⟩
      · skip
        refine bX10_blinksNow_107   (fun c19 => ?_) (fun c19 => ?_)
        · skip
          refine bX10_blinksNow_120   ?_
          refine bX10_blinksNow_125  (by first | exact b2i_01 _ | assumption | decide) ?_
          exact hQ _ _ ⟨by first | (simp_all [blinks0, deaf0, rest0, jrem]; done) | exact bl_3n (by assumption) (by assumption), rfl⟩
        · skip
          refine bX10_blinksNow_112   (fun c20 => ?_) (fun c20 => ?_)
          · skip
            refine bX10_blinksNow_124   ?_
            refine bX10_blinksNow_125  (by first | exact b2i_01 _ | assumption | decide) ?_
            exact hQ _ _ ⟨by first | (simp_all [blinks0, deaf0, rest0, jrem]; done) | exact bl_3n (by assumption) (by assumption), rfl⟩
          · skip
            refine bX10_blinksNow_120   ?_
            refine bX10_blinksNow_125  (by first | exact b2i_01 _ | assumption | decide) ?_
            exact hQ _ _ ⟨by first | (simp_all [blinks0, deaf0, rest0, jrem]; done) | exact bl_3n (by assumption) (by assumption), rfl⟩
      · skip
        refine bX10_blinksNow_126   (fun c21 => ?_) (fun c21 => ?_)
        · skip
          refine bX10_blinksNow_141   ?_
          refine bX10_blinksNow_142  (by first | exact b2i_01 _ | assumption | decide) ?_
          exact hQ _ _ ⟨by first | (simp_all [blinks0, deaf0, rest0, jrem]; done) | exact bl_3n (by assumption) (by assumption), rfl⟩
        · skip
          refine bX10_blinksNow_131   (fun c22 => ?_) (fun c22 => ?_)
          · skip
            refine bX10_blinksNow_141   ?_
            refine bX10_blinksNow_142  (by first | exact b2i_01 _ | assumption | decide) ?_
            exact hQ _ _ ⟨by first | (simp_all [blinks0, deaf0, rest0, jrem]; done) | exact bl_3n (by assumption) (by assumption), rfl⟩
          · skip
            refine bX10_blinksNow_137   ?_
            refine bX10_blinksNow_142  (by first | exact b2i_01 _ | assumption | decide) ?_
            exact hQ _ _ ⟨by first | (simp_all [blinks0, deaf0, rest0, jrem]; done) | exact bl_3n (by assumption) (by assumption), rfl⟩
      · skip
        refine bX10_blinksNow_143   (fun c23 => ?_) (fun c23 => ?_)
        · skip
          refine bX10_blinksNow_159   ?_
          refine bX10_blinksNow_164  (by first | exact b2i_01 _ | assumption | decide) ?_
          exact hQ _ _ ⟨by first | (simp_all [blinks0, deaf0, rest0, jrem]; done) | exact bl_3n (by assumption) (by assumption), rfl⟩
        · skip
          refine bX10_blinksNow_148   (fun c24 => ?_) (fun c24 => ?_)
          · skip
            refine bX10_blinksNow_163   ?_
            refine bX10_blinksNow_164  (by first | exact b2i_01 _ | assumption | decide) ?_
            exact hQ _ _ ⟨by first | (simp_all [blinks0, deaf0, rest0, jrem]; done) | exact bl_3n (by assumption) (by assumption), rfl⟩
          · skip
            refine bX10_blinksNow_159   ?_
            refine bX10_blinksNow_164  (by first | exact b2i_01 _ | assumption | decide) ?_
            exact hQ _ _ ⟨by first | (simp_all [blinks0, deaf0, rest0, jrem]; done) | exact bl_3n (by assumption) (by assumption), rfl⟩
      · skip
        refine bX10_blinksNow_165   (fun c25 => ?_) (fun c25 => ?_)
        · skip
          refine bX10_blinksNow_174   ?_
          refine bX10_blinksNow_175  (by first | exact b2i_01 _ | assumption | decide) ?_
          exact hQ _ _ ⟨by first | (simp_all [blinks0, deaf0, rest0, jrem]; done) | exact bl_3n (by assumption) (by assumption), rfl⟩
        · skip
          refine bX10_blinksNow_170   ?_
          refine bX10_blinksNow_175  (by first | exact b2i_01 _ | assumption | decide) ?_
          exact hQ _ _ ⟨by first | (simp_all [blinks0, deaf0, rest0, jrem]; done) | exact bl_3n (by assumption) (by assumption), rfl⟩
    · skip
      refine bX10_blinksNow_45   ?_
      refine bX10_blinksNow_50   (qX10_its (w := 0) (i := 8 + 4 * _) rfl rfl rfl rfl (by omega)) ?_
      rintro _ _ ⟨rfl, rfl⟩
      refine bX10_blinksNow_58   (fun c27 => ?_) (fun c27 => ?_) (fun c27 => ?_) (fun c27 => ?_) (fun c27 => ?_) (fun c27_0 c27_1 c27_2 c27_3 c27_4 => ?_)
      · skip
        refine bX10_blinksNow_92  (by first | exact b2i_01 _ | assumption | decide) ?_
        exact hQ _ _ ⟨by first | (simp_all [blinks0, deaf0, rest0, jrem]; done) | exact bl_3n (by assumption) (by assumption), rfl⟩
      · skip
        refine bX10_blinksNow_95   (fun c28 => ?_) (fun c28 => ?_)
        · skip
          refine bX10_blinksNow_105   ?_
          refine bX10_blinksNow_106  (by first | exact b2i_01 _ | assumption | decide) ?_
          exact hQ _ _ ⟨by first | (simp_all [blinks0, deaf0, rest0, jrem]; done) | exact bl_3n (by assumption) (by assumption), rfl⟩
        · skip
          refine bX10_blinksNow_101   ?_
          refine bX10_blinksNow_106  (by first | exact b2i_01 _ | assumption | decide) ?_
          exact hQ _ _ ⟨by first | (simp_all [blinks0, deaf0, rest0, jrem]; done) | exact bl_3n (by assumption) (by assumption), rfl⟩
      · skip
        refine bX10_blinksNow_107   (fun c29 => ?_) (fun c29 => ?_)
        · skip
          refine bX10_blinksNow_120   ?_
          refine bX10_blinksNow_125  (by first | exact b2i_01 _ | assumption | decide) ?_
          exact hQ _ _ ⟨by first | (simp_all [blinks0, deaf0, rest0, jrem]; done) | exact bl_3n (by assumption) (by assumption), rfl⟩
        · skip
          refine bX10_blinksNow_112   (fun c30 => ?_) (fun c30 => ?_)
          · skip
            refine bX10_blinksNow_124   ?_
            refine bX10_blinksNow_125  (by first | exact b2i_01 _ | assumption | decide) ?_
            exact hQ _ _ ⟨by first | (simp_all [blinks0, deaf0, rest0, jrem]; done) | exact bl_3n (by assumption) (by assumption), rfl⟩
          · skip
            refine bX10_blinksNow_120   ?_
            refine bX10_blinksNow_125  (by first | exact b2i_01 _ | assumption | decide) ?_
            exact hQ _ _ ⟨by first | (simp_all [blinks0, deaf0, rest0, jrem]; done) | exact bl_3n (by assumption) (by assumption), rfl⟩
      · skip
        refine bX10_blinksNow_126   (fun c31 => ?_) (fun c31 => ?_)
        · skip
          refine bX10_blinksNow_141   ?_
          refine bX10_blinksNow_142  (by first | exact b2i_01 _ | assumption | decide) ?_
          exact hQ _ _ ⟨by first | (simp_all [blinks0, deaf0, rest0, jrem]; done) | exact bl_3n (by assumption) (by assumption), rfl⟩
        · skip
          refine bX10_blinksNow_131   (fun c32 => ?_) (fun c32 => ?_)
          · skip
            refine bX10_blinksNow_141   ?_
            refine bX10_blinksNow_142  (by first | exact b2i_01 _ | assumption | decide) ?_
            exact hQ _ _ ⟨by first | (simp_all [blinks0, deaf0, rest0, jrem]; done) | exact bl_3n (by assumption) (by assumption), rfl⟩
          · skip
            refine bX10_blinksNow_137   ?_
            refine bX10_blinksNow_142  (by first | exact b2i_01 _ | assumption | decide) ?_
            exact hQ _ _ ⟨by first | (simp_all [blinks0, deaf0, rest0, jrem]; done) | exact bl_3n (by assumption) (by assumption), rfl⟩
      · skip
        refine bX10_blinksNow_143   (fun c33 => ?_) (fun c33 => ?_)
        · skip
          refine bX10_blinksNow_159   ?_
          refine bX10_blinksNow_164  (by first | exact b2i_01 _ | assumption | decide) ?_
          exact hQ _ _ ⟨by first | (simp_all [blinks0, deaf0, rest0, jrem]; done) | exact bl_3n (by assumption) (by assumption), rfl⟩
        · skip
          refine bX10_blinksNow_148   (fun c34 => ?_) (fun c34 => ?_)
          · skip
            refine bX10_blinksNow_163   ?_
            refine bX10_blinksNow_164  (by first | exact b2i_01 _ | assumption | decide) ?_
            exact hQ _ _ ⟨by first | (simp_all [blinks0, deaf0, rest0, jrem]; done) | exact bl_3n (by assumption) (by assumption), rfl⟩
          · skip
            refine bX10_blinksNow_159   ?_
            refine bX10_blinksNow_164  (by first | exact b2i_01 _ | assumption | decide) ?_
            exact hQ _ _ ⟨by first | (simp_all [blinks0, deaf0, rest0, jrem]; done) | exact bl_3n (by assumption) (by assumption), rfl⟩
      · skip
        refine bX10_blinksNow_165   (fun c35 => ?_) (fun c35 => ?_)
        · skip
          refine bX10_blinksNow_174   ?_
          refine bX10_blinksNow_175  (by first | exact b2i_01 _ | assumption | decide) ?_
          exact hQ _ _ ⟨by first | (simp_all [blinks0, deaf0, rest0, jrem]; done) | exact bl_3n (by assumption) (by assumption), rfl⟩
        · skip
          refine bX10_blinksNow_170   ?_
          refine bX10_blinksNow_175  (by first | exact b2i_01 _ | assumption | decide) ?_
          exact hQ _ _ ⟨by first | (simp_all [blinks0, deaf0, rest0, jrem]; done) | exact bl_3n (by assumption) (by assumption), rfl⟩
theorem pX10_triesOf {d : Nat} {im : XI} {s : Nat → Int32} {p : Nat} (hs : im 1 = s) (hp : p < 6) : SpI mX10_triesOf (d + 1) [.ref 0, .int (nI p)] SM im (fun x im' => x = tries0 (s (8 + 4 * p)) (s (9 + 4 * p)) (s 5) ∧ im = im') := by
  refine SpI.of [some (.ref 0), some (.int (nI p)), none] rfl (by decide) rfl (fun Q hQ => ?_)
  subst hs
  refine bX10_triesOf_0   (qX10_its (w := 1) (i := 9 + 4 * _) rfl rfl rfl rfl (by omega)) ?_
  rintro _ _ ⟨rfl, rfl⟩
  refine bX10_triesOf_7   (qX10_its (w := 0) (i := 8 + 4 * _) rfl rfl rfl rfl (by omega)) ?_
  rintro _ _ ⟨rfl, rfl⟩
  refine bX10_triesOf_17   (fun c3 => ?_) (fun c3 => ?_) (fun c3 => ?_) (fun c3 => ?_) (fun c3 => ?_) (fun c3_0 c3_1 c3_2 c3_3 c3_4 => ?_)
  · skip
    refine bX10_triesOf_56   ?_
    exact hQ _ _ ⟨by simp_all [tries0], rfl⟩
  · skip
    refine bX10_triesOf_58   ?_
    exact hQ _ _ ⟨by simp_all [tries0], rfl⟩
  · skip
    refine bX10_triesOf_67   ?_
    exact hQ _ _ ⟨by simp_all [tries0], rfl⟩
  · skip
    refine bX10_triesOf_71   ?_
    exact hQ _ _ ⟨by simp_all [tries0], rfl⟩
  · skip
    refine bX10_triesOf_73   ?_
    exact hQ _ _ ⟨by simp_all [tries0], rfl⟩
  · skip
    refine bX10_triesOf_75   ?_
    exact hQ _ _ ⟨by simp_all [tries0], rfl⟩
theorem pX10_joined {d : Nat} {im : XI} {S : XS} {c a b : Int32}  : SpI mX10_joined d [.int c, .int a, .int b] S im (fun x im' => x = join0 c a b ∧ im = im') := by
  refine SpI.of [some (.int c), some (.int a), some (.int b)] rfl (by decide) rfl (fun Q hQ => ?_)
  refine bX10_joined_0   (fun c1 => ?_) (fun c1 => ?_) (fun c1 => ?_) (fun c1 => ?_) (fun c1 => ?_) (fun c1 => ?_) (fun c1 => ?_) (fun c1 => ?_) (fun c1 => ?_) (fun c1_0 c1_1 c1_2 c1_3 c1_4 c1_5 c1_6 c1_7 c1_8 => ?_)
  · skip
    refine bX10_joined_154   (fun c2 => ?_) (fun c2 => ?_)
    · skip
      refine bX10_joined_163   ?_
      refine bX10_joined_170   ?_
      exact hQ _ _ ⟨by simp_all [join0, jrem], rfl⟩
    · skip
      refine bX10_joined_158   (fun c3 => ?_) (fun c3 => ?_)
      · skip
        refine bX10_joined_167  (by first | assumption | rfl | omega | decide) ?_
        refine bX10_joined_170   ?_
        exact hQ _ _ ⟨by simp_all [join0, jrem], rfl⟩
      · skip
        refine bX10_joined_163   ?_
        refine bX10_joined_170   ?_
        exact hQ _ _ ⟨by simp_all [join0, jrem], rfl⟩
  · skip
    refine bX10_joined_204   (fun c4 => ?_) (fun c4 => ?_)
    · skip
      refine bX10_joined_216   ?_
      refine bX10_joined_217   ?_
      exact hQ _ _ ⟨by simp_all [join0, jrem], rfl⟩
    · skip
      refine bX10_joined_208   (fun c5 => ?_) (fun c5 => ?_)
      · skip
        refine bX10_joined_216   ?_
        refine bX10_joined_217   ?_
        exact hQ _ _ ⟨by simp_all [join0, jrem], rfl⟩
      · skip
        refine bX10_joined_212   ?_
        refine bX10_joined_217   ?_
        exact hQ _ _ ⟨by simp_all [join0, jrem], rfl⟩
  · skip
    refine bX10_joined_128   ?_
    exact hQ _ _ ⟨by simp_all [join0, jrem], rfl⟩
  · skip
    refine bX10_joined_120   ?_
    exact hQ _ _ ⟨by simp_all [join0, jrem], rfl⟩
  · skip
    refine bX10_joined_124   ?_
    exact hQ _ _ ⟨by simp_all [join0, jrem], rfl⟩
  · skip
    refine bX10_joined_132   (fun c6 => ?_) (fun c6 => ?_)
    · skip
      refine bX10_joined_140   (fun c7 => ?_) (fun c7 => ?_)
      · skip
        refine bX10_joined_150  (by first | assumption | rfl | omega | decide) ?_
        refine bX10_joined_153   ?_
        exact hQ _ _ ⟨by simp_all [join0, jrem], rfl⟩
      · skip
        refine bX10_joined_145   ?_
        refine bX10_joined_153   ?_
        exact hQ _ _ ⟨by simp_all [join0, jrem], rfl⟩
    · skip
      refine bX10_joined_136   ?_
      refine bX10_joined_153   ?_
      exact hQ _ _ ⟨by simp_all [join0, jrem], rfl⟩
  · skip
    refine bX10_joined_171   (fun c8 => ?_) (fun c8 => ?_)
    · skip
      refine bX10_joined_180   ?_
      refine bX10_joined_181   ?_
      exact hQ _ _ ⟨by simp_all [join0, jrem], rfl⟩
    · skip
      refine bX10_joined_176   ?_
      refine bX10_joined_181   ?_
      exact hQ _ _ ⟨by simp_all [join0, jrem], rfl⟩
  · skip
    refine bX10_joined_193   (fun c9 => ?_) (fun c9 => ?_)
    · skip
      refine bX10_joined_202   ?_
      refine bX10_joined_203   ?_
      exact hQ _ _ ⟨by simp_all [join0, jrem], rfl⟩
    · skip
      refine bX10_joined_198   ?_
      refine bX10_joined_203   ?_
      exact hQ _ _ ⟨by simp_all [join0, jrem], rfl⟩
  · skip
    refine bX10_joined_182   (fun c10 => ?_) (fun c10 => ?_)
    · skip
      refine bX10_joined_191   ?_
      refine bX10_joined_192   ?_
      exact hQ _ _ ⟨by simp_all [join0, jrem], rfl⟩
    · skip
      refine bX10_joined_187   ?_
      refine bX10_joined_192   ?_
      exact hQ _ _ ⟨by simp_all [join0, jrem], rfl⟩
  · skip
    refine bX10_joined_218   (fun c11 => ?_) (fun c11 => ?_)
    · skip
      refine bX10_joined_226   ?_
      refine bX10_joined_231   ?_
      exact hQ _ _ ⟨by simp_all [join0, jrem], rfl⟩
    · skip
      refine bX10_joined_222   (fun c12 => ?_) (fun c12 => ?_)
      · skip
        refine bX10_joined_230   ?_
        refine bX10_joined_231   ?_
        exact hQ _ _ ⟨by simp_all [join0, jrem], rfl⟩
      · skip
        refine bX10_joined_226   ?_
        refine bX10_joined_231   ?_
        exact hQ _ _ ⟨by simp_all [join0, jrem], rfl⟩

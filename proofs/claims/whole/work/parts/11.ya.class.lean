theorem pX9_move {d : Nat} {im : XI} {bo : Bool} {s : Nat → Int32} {np nd : Nat} {bs ss nu : Nat → Int32} {z0 i y0 j n : Int32} (hR : RI 0 s im) (hI : Iv s np nd) (hS : SR bs ss nu im) (hSI : SI bs ss) : SpI mX9_move (d + 2) [.ref 0, .int z0, .int i, .int y0, .int j, .int n] (SC bo) im (fun x im' => opMoveC im s bs ss nu z0 i y0 j n x im') := by
  refine SpI.of [some (.ref 0), some (.int z0), some (.int i), some (.int y0), some (.int j), some (.int n), none, none] rfl (by decide) rfl (fun Q hQ => ?_)
  refine bX9_move_0 pX9_isSheet ?_
  rintro x0 im1 ⟨hx, hm⟩
  subst hm
  have bad : ¬ (okSh z0 ∧ okSh y0) → V mX9_move (d + 2) (0, 0) 14 [some (.ref 0), some (.int z0), some (.int i), some (.int y0), some (.int j), some (.int n), none, none] [] (SC bo) im Q := by
    intro h
    refine bX9_move_14 (pX9_fail (k := 1) (by decide) (by decide) (by decide)) ?_
    rintro _ _ ⟨rfl, rfl⟩
    refine bX9_move_20 ?_
    refine hQ _ _ ?_
    unfold opMoveC
    rw [if_pos h]
    exact Pc.er hI rfl hR kK.rf (by decide)
  refine bX9_move_4 (fun c => ?_) (fun c => ?_)
  · rw [hx, b2i_z] at c
    exact bad (fun h => c h.1)
  rw [hx, b2i_nz] at c
  refine bX9_move_7 pX9_isSheet ?_
  rintro x1 im1 ⟨hx1, hm⟩
  subst hm
  refine bX9_move_11 (fun cy => ?_) (fun cy => ?_)
  rotate_left
  · rw [hx1, b2i_z] at cy
    exact bad (fun h => cy h.2)
  rw [hx1, b2i_nz] at cy
  have hc : okSh z0 ∧ okSh y0 := ⟨c, cy⟩
  obtain ⟨z, hz3, rfl⟩ := (in_c (x := z0) (n := 3) rfl (by decide)).mp c
  have hz4 : z < 4 := by omega
  have hzn : nnat (nI z) = z := nnat_nI (by omega)
  obtain ⟨s1, s2, s3⟩ := hS z hz4
  obtain ⟨hbz, m, hm, hmz⟩ := hSI z hz4
  have hmn : nnat (nI m) = m := nnat_nI (by omega)
  obtain ⟨y, hy3, rfl⟩ := (in_c (x := y0) (n := 3) rfl (by decide)).mp cy
  have hy4 : y < 4 := by omega
  have hyn : nnat (nI y) = y := nnat_nI (by omega)
  obtain ⟨t1, t2, t3⟩ := hS y hy4
  obtain ⟨hby, m2, hm2, hmy⟩ := hSI y hy4
  have bad2 : (bs z = 0 ∨ bs y = 0) → V mX9_move (d + 2) (0, 0) 53 [some (.ref 0), some (.int (nI z)), some (.int i), some (.int (nI y)), some (.int j), some (.int n), some (.ref (38 + 3 * z)), some (.ref (38 + 3 * y))] [] (SC bo) im Q := by
    intro h
    refine bX9_move_53 (pX9_fail (k := 2) (by decide) (by decide) (by decide)) ?_
    rintro _ _ ⟨rfl, rfl⟩
    refine bX9_move_59 ?_
    refine hQ _ _ ?_
    unfold opMoveC
    rw [if_neg (not_not_intro hc), hzn, hyn, opMoveNC, if_pos h]
    exact Pc.er hI rfl hR kK.rf (by decide)
  refine bX9_move_21 rfl hz4 rfl hy4 (pX7_isMissing (xsheet hz4)) ?_
  rintro x2 im1 ⟨hx2, hm⟩
  subst hm
  rw [s1] at hx2
  refine bX9_move_42 (fun c3 => ?_) (fun c3 => ?_)
  · rw [hx2, b2i_nz] at c3
    exact bad2 (Or.inl c3)
  rw [hx2, b2i_z] at c3
  refine bX9_move_45 (xsheet hy4) (pX7_isMissing (xsheet hy4)) ?_
  rintro x3 im1 ⟨hx3, hm⟩
  subst hm
  rw [t1] at hx3
  refine bX9_move_50 (fun c4 => ?_) (fun c4 => ?_)
  rotate_left
  · rw [hx3, b2i_nz] at c4
    exact bad2 (Or.inr c4)
  rw [hx3, b2i_z] at c4
  have hc3 : ¬ (bs z = 0 ∨ bs y = 0) := fun h => h.elim c3 c4
  refine bX9_move_60 (xsheet hz4) (xsheet hy4) (fun c5 => ?_) (fun c5 => ?_)
  rotate_left
  · rw [s1, t1] at c5
    refine bX9_move_73 (pX9_fail (k := 5) (by decide) (by decide) (by decide)) ?_
    rintro _ _ ⟨rfl, rfl⟩
    refine bX9_move_79 ?_
    refine hQ _ _ ?_
    unfold opMoveC
    rw [if_neg (not_not_intro hc), hzn, hyn, opMoveNC, if_neg hc3, if_pos c5]
    exact Pc.er hI rfl hR kK.rf (by decide)
  rw [s1, t1] at c5
  have bad3 : ¬ okMv ss z i y j n → V mX9_move (d + 2) (0, 0) 109 [some (.ref 0), some (.int (nI z)), some (.int i), some (.int (nI y)), some (.int j), some (.int n), some (.ref (38 + 3 * z)), some (.ref (38 + 3 * y))] [] (SC bo) im Q := by
    intro h
    refine bX9_move_109 (pX9_fail (k := 1) (by decide) (by decide) (by decide)) ?_
    rintro _ _ ⟨rfl, rfl⟩
    refine bX9_move_115 ?_
    refine hQ _ _ ?_
    unfold opMoveC
    rw [if_neg (not_not_intro hc), hzn, hyn, opMoveNC, if_neg hc3, if_neg (not_not_intro c5), if_pos h]
    exact Pc.er hI rfl hR kK.rf (by decide)
  refine bX9_move_80 (xsheet hz4) (xsheetR hz4) (xsheetRow hz4) (pX6_spans (xsheetRow hz4)) ?_
  rintro x4 im1 ⟨hx4, hm⟩
  subst hm
  rw [s2, hmz] at hx4
  refine bX9_move_91 (fun c6 => ?_) (fun c6 => ?_)
  · rw [hx4, b2i_z] at c6
    refine bad3 (fun h => c6 ⟨h.2.1, h.1, ?_⟩)
    have := h.2.2.2.1
    rw [hmz] at this
    exact (sp_iff hm h.1 h.2.1).mp this
  rw [hx4, b2i_nz] at c6
  refine bX9_move_94 (xsheet hy4) (xsheetR hy4) (xsheetRow hy4) (pX6_spans (xsheetRow hy4)) ?_
  rintro x5 im1 ⟨hx5, hm⟩
  subst hm
  rw [t2, hmy] at hx5
  refine bX9_move_106 (fun c7 => ?_) (fun c7 => ?_)
  rotate_left
  · rw [hx5, b2i_z] at c7
    refine bad3 (fun h => c7 ⟨h.2.2.1, h.1, ?_⟩)
    have := h.2.2.2.2
    rw [hmy] at this
    exact (sp_iff hm2 h.1 h.2.2.1).mp this
  rw [hx5, b2i_nz] at c7
  have o1 := (sp_iff hm c6.2.1 c6.1).mpr c6.2.2
  have o2 := (sp_iff hm2 c7.2.1 c7.1).mpr c7.2.2
  have hok : okMv ss z i y j n := ⟨c6.2.1, c6.1, c7.1, by rw [hmz]; exact o1, by rw [hmy]; exact o2⟩
  have k1 := c6.2.1
  have k2 := c6.1
  have k3 := c7.1
  clear hx4 hx5 c6 c7
  obtain ⟨a, b, rfl, rfl, hb⟩ := le_sub hm k1 k2 o1
  obtain ⟨a2, e, ea, rfl, he⟩ := le_sub hm2 k1 k3 o2
  have ha2 : a < 2 ^ 31 := by omega
  obtain rfl : a = a2 := (nI_eq ha2 (by omega)).mp ea
  refine bX9_move_116 (xsheet hy4) (xsheetR hy4) (xsheet hz4) (xsheetR hz4) (xsheetRow hy4) (pX6_takeFrom (xsheetRow hy4) (xsheetRowR hy4) (xsheetA hy4) (xsheetRow hz4) (xsheetRowR hz4) (xsheetA hz4) rfl rfl rfl (t2.trans hmy) (s2.trans hmz) hb he hm2 hm (by omega) (by omega)) ?_
  rintro _ rfl
  refine bX9_move_134 ?_
  refine hQ _ _ ?_
  unfold opMoveC
  rw [if_neg (not_not_intro hc), hzn, hyn, opMoveNC, if_neg hc3, if_neg (not_not_intro c5), if_neg (not_not_intro hok), nnat_nI (n := a) (by omega), nnat_nI (n := b) (by omega), nnat_nI (n := e) (by omega)]
  have xo : ∀ q, q ≠ 40 + 3 * y → xcp im (40 + 3 * z) b (40 + 3 * y) e a q = im q := by
    intro q hq
    funext k
    simp only [xcp]
    rw [if_neg (fun h => hq h.1)]
  refine ⟨rfl, hR.ext hI (fun q _ _ _ _ => xo q (by omega)), ?_, fun q i hq => by rw [xo q (by omega)]⟩
  intro w hw
  obtain ⟨y1, y2, y3⟩ := hS w hw
  refine ⟨by rw [xo _ (by omega)]; exact y1, by rw [xo _ (by omega)]; exact y2, fun m' hm24 hm' q hq => ?_⟩
  by_cases e1 : w = y ∧ e ≤ q ∧ q < e + a
  · obtain ⟨rfl, h1, h2⟩ := e1
    have g1 : xcp im (40 + 3 * z) b (40 + 3 * w) e a (40 + 3 * w) q = im (40 + 3 * z) (b + (q - e)) := by
      unfold xcp
      rw [if_pos ⟨rfl, h1, h2⟩]
    have g2 : mvd nu z b w e a (24 * w + q) = nu (24 * z + (b + (q - e))) := by
      unfold mvd
      rw [if_pos (by omega)]
      congr 1
      omega
    rw [g1, g2]
    exact s3 m hm hmz _ (by omega)
  · have g1 : xcp im (40 + 3 * z) b (40 + 3 * y) e a (40 + 3 * w) q = im (40 + 3 * w) q := by
      simp only [xcp]
      rw [if_neg (fun h => e1 ⟨by omega, h.2⟩)]
    have g2 : mvd nu z b y e a (24 * w + q) = nu (24 * w + q) := by
      unfold mvd
      rw [if_neg (fun h => e1 ⟨by omega, by omega, by omega⟩)]
    rw [g1, g2]
    exact y3 m' hm24 hm' q hq

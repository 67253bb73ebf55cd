theorem pX10_isSheet {d : Nat} {im : XI} {S : XS} {z : Int32}  : SpI mX10_isSheet (d + 1) [.int z] S im (fun x im' => x = b2i (okSh z) ∧ im = im') := by
  refine SpI.of [some (.int z)] rfl (by decide) rfl (fun Q hQ => ?_)
  refine bX10_isSheet_0   pX10_in ?_
  rintro _ _ ⟨rfl, rfl⟩
  refine bX10_isSheet_6  (by first | exact b2i_01 _ | assumption | decide) ?_
  exact hQ _ _ ⟨rfl, rfl⟩
def lack0 (bs : Nat → Int32) (z : Int32) : Int32 := if ¬ okSh z then 1 else if bs (nnat z) = 0 then 2 else 0
theorem pX10_lacks {d : Nat} {im : XI} {bs : Nat → Int32} {z : Int32} (hb : im 9 = bs) : SpI mX10_lacks (d + 2) [.ref 0, .int z] SM im (fun x im' => x = lack0 bs z ∧ im = im') := by
  refine SpI.of [some (.ref 0), some (.int z)] rfl (by decide) rfl (fun Q hQ => ?_)
  refine bX10_lacks_0   pX10_isSheet ?_
  rintro _ _ ⟨rfl, rfl⟩
  refine bX10_lacks_4   (fun c2 => ?_) (fun c2 => ?_)
  · skip
    try simp only [b2i_z, Classical.not_not] at c2
    obtain ⟨j, hj, rfl⟩ := (in_c (x := z) (n := 3) rfl (by decide)).mp (by assumption)
    refine bX10_lacks_11  (by rfl) (by omega) (fun c3 => ?_) (fun c3 => ?_)
    · skip
      try simp only [b2i_z, Classical.not_not] at c3
      refine bX10_lacks_24   ?_
      refine bX10_lacks_25   ?_
      subst hb
      refine hQ _ _ ⟨?_, rfl⟩
      unfold lack0
      first
        | (rw [if_pos (by assumption)])
        | (rw [if_neg (not_not_intro (by assumption)), nnat_nI (by omega), if_pos (by assumption)])
        | (rw [if_neg (not_not_intro (by assumption)), nnat_nI (by omega), if_neg (by assumption)])
    · skip
      try simp only [b2i_z, Classical.not_not] at c3
      refine bX10_lacks_20   ?_
      refine bX10_lacks_25   ?_
      subst hb
      refine hQ _ _ ⟨?_, rfl⟩
      unfold lack0
      first
        | (rw [if_pos (by assumption)])
        | (rw [if_neg (not_not_intro (by assumption)), nnat_nI (by omega), if_pos (by assumption)])
        | (rw [if_neg (not_not_intro (by assumption)), nnat_nI (by omega), if_neg (by assumption)])
  · skip
    try simp only [b2i_z, Classical.not_not] at c2
    refine bX10_lacks_7   ?_
    refine bX10_lacks_25   ?_
    subst hb
    refine hQ _ _ ⟨?_, rfl⟩
    unfold lack0
    first
      | (rw [if_pos (by assumption)])
      | (rw [if_neg (not_not_intro (by assumption)), nnat_nI (by omega), if_pos (by assumption)])
      | (rw [if_neg (not_not_intro (by assumption)), nnat_nI (by omega), if_neg (by assumption)])
theorem pX10_isShutSo {d : Nat} {im : XI} {s : Nat → Int32} {np nd : Nat} {z p b f m : Nat} (hs : im 1 = s) (hI : Iv s np nd) (hz4 : z < 4) (hp : p < np) (hb0 : 0 < b) (hb : b ≤ 12) (hm : m ≤ 24) (hz : im 10 z = nI m) : SpI mX10_isShutSo (d + 4) [.ref 0, .int (nI z), .int (nI p), .int (nI b), .int (nI f)] SM im (fun x im' => x = fitC s (im 11) z m p b f ∧ im' 1 = s ∧ mkL im im') := by
  refine SpI.of [some (.ref 0), some (.int (nI z)), some (.int (nI p)), some (.int (nI b)), some (.int (nI f)), none, none] rfl (by decide) rfl (fun Q hQ => ?_)
  have hnp := hI.1.1
  have hs0 : (ovl im 3 1 50) 1 = s := by rw [lay_1]; exact hs
  refine bX10_isShutSo_0 pX10_layDown ?_
  rintro _ rfl
  refine bX10_isShutSo_4 (qX10_lays1 (p := p) (w := 2) (i := 10 + 4 * p) hs0 rfl rfl rfl (by omega)) ?_
  rintro im1 ⟨hs1, hm1⟩
  refine bX10_isShutSo_11 (qX10_lays1 (p := p) (w := 3) (i := 11 + 4 * p) hs1 rfl rfl rfl (by omega)) ?_
  rintro im2 ⟨hs2, hm2⟩
  refine bX10_isShutSo_19 ?_
  have key : ∀ (n k : Nat) (im1 : XI), m < k + n → k ≤ m → im1 1 = rowB s p (nI b) (nI f) k → mk (ovl im 3 1 50) im1 → V mX10_isShutSo (d + 4) (0, 0) 25 [some (.ref 0), some (.int (nI z)), some (.int (nI p)), some (.int (nI b)), some (.int (nI f)), some (.int (fitN s p (fun k => im 11 (24 * z + k)) (s 0) (nI b) (nI f) k)), some (.int (nI k))] [] SM im1 Q := by
    intro n
    induction n with
    | zero => intro k im1 hn1 hn2; omega
    | succ n ih =>
      intro k im1 hn1 hn2 hs1 hm1
      have hsz : im1 10 z = nI m := by rw [hm1 10 z (by simp [mgb])]; simp only [ovl]; rw [if_neg (by omega)]; exact hz
      have hnum : ∀ j, im1 11 j = im 11 j := fun j => by rw [hm1 11 j (by simp [mgb])]; simp only [ovl]; rw [if_neg (by omega)]
      have fin : (fitN s p (fun k => im 11 (24 * z + k)) (s 0) (nI b) (nI f) k) = fitC s (im 11) z m p b f → V mX10_isShutSo (d + 4) (0, 0) 84 [some (.ref 0), some (.int (nI z)), some (.int (nI p)), some (.int (nI b)), some (.int (nI f)), some (.int (fitN s p (fun k => im 11 (24 * z + k)) (s 0) (nI b) (nI f) k)), some (.int (nI k))] [] SM im1 Q := by
        intro he
        refine bX10_isShutSo_84 pX10_layBack ?_
        rintro _ rfl
        refine bX10_isShutSo_88 (fitN_01 _ _ _ _ _ _ _) ?_
        refine hQ _ _ ⟨he, back_s (fun q hq => lay_3 hs hm1 hq) hs1 (fun q hq => by unfold rowB; rw [upd_ne (by omega), upd_ne (by omega), upd_ne (by omega)]), (mkL_lay im).tr (mk_ovl hm1).L⟩
      refine bX10_isShutSo_25 (i1 := z) rfl (by omega) (fun c => ?_) (fun c => ?_)
      · rw [hsz] at c
        have hE : m ≤ k := ge_i (by omega) (by omega) c
        have : k = m := by omega
        subst this
        exact fin rfl
      · rw [hsz] at c
        have hB : k < m := lt_i (by omega) (by omega) c
        refine bX10_isShutSo_36 (fun c2 => fin (by unfold fitC; rw [c2, fitN_z c2 (by omega)])) (fun c2 => ?_)
        have hIk := rowB_Iv (f := nI f) hI (show p < 6 by omega) hb0 hb k
        have hbz : ¬ rowB s p (nI b) (nI f) k (10 + 4 * p) = 0 := by
          unfold rowB
          rw [upd_ne (by omega), upd_ne (by omega), upd_at]
          exact nI_ne0 hb0 (by omega)
        refine bX10_isShutSo_41 (pX10_shutOf hs1 (by omega) hbz hIk.2.2.2.2.1) ?_
        rintro _ im5 ⟨rfl, hs5, hm5⟩
        rw [rowB_shut (by omega)]
        have hN : (fitN s p (fun k => im 11 (24 * z + k)) (s 0) (nI b) (nI f) (k + 1)) = if (fitN s p (fun k => im 11 (24 * z + k)) (s 0) (nI b) (nI f) k) = 0 then 0 else if shutG s p (s 0 + nI k) (nI b) (nI f) = im 11 (24 * z + k) then 1 else 0 := rfl
        rw [if_neg c2] at hN
        have hnx : ∀ y : Int32, y = (fitN s p (fun k => im 11 (24 * z + k)) (s 0) (nI b) (nI f) (k + 1)) → V mX10_isShutSo (d + 4) (0, 0) 66 [some (.ref 0), some (.int (nI z)), some (.int (nI p)), some (.int (nI b)), some (.int (nI f)), some (.int (fitN s p (fun k => im 11 (24 * z + k)) (s 0) (nI b) (nI f) k)), some (.int (nI k))] [.int y] SM im5 Q := by
          intro y hy
          refine bX10_isShutSo_66 ?_
          rw [nI_1, hy]
          refine ih (k + 1) _ (by omega) (by omega) ?_ ((hm1.tr hm5).up (mg1 _))
          rw [xup_s, hs5]
          unfold rowB
          rw [upd_at, upd_upd, Int32.add_assoc, nI_1]
        refine bX10_isShutSo_46 (i1 := 24 * z + k) (by rw [show (24 : Int32) = nI 24 from rfl, pk_mul, nI_add]) (by omega) (fun c3 => ?_) (fun c3 => ?_)
        · rw [hm5 11 _ (by simp [mgb]), hnum] at c3
          refine bX10_isShutSo_65 (hnx _ ?_)
          rw [hN, if_neg c3]
        · rw [hm5 11 _ (by simp [mgb]), hnum] at c3
          refine bX10_isShutSo_61 (hnx _ ?_)
          rw [hN, if_pos c3]
  refine key (m + 1) 0 im2 (by omega) (by omega) ?_ (hm1.tr hm2)
  rw [hs2]
  unfold rowB
  rw [upd_self (k := 0) (by rw [upd_ne (by omega), upd_ne (by omega), nI_0, Int32.add_zero])]

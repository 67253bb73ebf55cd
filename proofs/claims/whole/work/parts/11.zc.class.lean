theorem pX9_restore_N {d : Nat} {im : XI} {s : Nat → Int32} {np nd : Nat} (hR : RI 0 s im) (hI : Iv s np nd) : SpI mX9_restore (d + 5) [.ref 0] (SC false) im (fun x im' => Pc im (rE 2 s) x im') := by
  refine SpI.of [some (.ref 0)] rfl (by decide) rfl (fun Q hQ => ?_)
  refine bX9_restore_0N ?_
  refine bX9_restore_7 (pX9_fail (k := 2) (by decide) (by decide) (by decide)) ?_
  rintro _ _ ⟨rfl, rfl⟩
  refine bX9_restore_13 ?_
  exact hQ _ _ (Pc.er hI rfl hR kK.rf (by decide))
theorem pX9_restore_R {d : Nat} {im : XI} {s kp : Nat → Int32} {np nd np' nd' : Nat} (hR : RI 0 s im) (hI : Iv s np nd) (hR2 : RI 49 kp im) (hI2 : Iv kp np' nd') : SpI mX9_restore (d + 5) [.ref 0] (SC true) im (fun x im' => Pc im (rO (kp 0) kp) x im') := by
  refine SpI.of [some (.ref 0)] rfl (by decide) rfl (fun Q hQ => ?_)
  refine bX9_restore_0R ?_
  refine bX9_restore_14 rfl (pX2_beLike (o := 49) (o' := 0) (Or.inr rfl) (Or.inl rfl) (by decide) hR2 hI2 hR.l0.1 hR.l1.1) ?_
  rintro im2 ⟨h1, h2⟩
  refine bX9_restore_25 ?_
  exact hQ _ _ (Pc.ok h1.1.2.2.1 h1 (fun a k ha => by rw [h2 a (by omega)]))
theorem pX9_image_18 {d : Nat} {b : Nat × Nat} {im : XI} {s : Nat → Int32} {np nd : Nat} {Q : Option Value → XS → XI → Prop} (hR : RI 0 s im) (hI : Iv s np nd) (hU0 : im 53 0 = nI 0) (hU1 : im 57 0 = nI 1) (hQ : ∀ (x : Int32) (im' : XI), x = im 0 7 + 1 → RI 0 s im' → RI 49 s im' → im' 0 7 = im 0 7 + 1 → (∀ a k, ¬ (50 ≤ a ∧ a ≤ 76) → ¬ (a = 0 ∧ k = 7) → im' a k = im a k) → Q (some (.int x)) (SC true) im') : V mX9_image (d + 5) b 18 [some (.ref 0)] [] (SC true) im Q := by
  refine bX9_image_18 rfl rfl (pX2_beLike (o := 0) (o' := 49) (Or.inl rfl) (Or.inr rfl) (by decide) hR hI hU0 hU1) ?_
  rintro im2 ⟨h1, h2⟩
  refine bX9_image_29 ?_
  have e : im2 0 7 = im 0 7 := congrFun (h2 0 (by omega)) 7
  refine hQ _ _ (by rw [xup_at, e]) ?_ ?_ (by rw [xup_at, e]) (fun a k ha hk => ?_)
  · exact hR.ext hI (fun a _ _ _ _ => by rw [xup_o (by omega), h2 a (by omega)])
  · exact RI49_x hI h1
  · simp only [xup]
    rw [if_neg hk, h2 a (by omega)]
theorem pX9_image_R {d : Nat} {im : XI} {s kp : Nat → Int32} {np nd np' nd' : Nat} (hR : RI 0 s im) (hI : Iv s np nd) (hR2 : RI 49 kp im) : SpI mX9_image (d + 5) [.ref 0] (SC true) im (fun x im' => x = im 0 7 + 1 ∧ RI 0 s im' ∧ RI 49 s im' ∧ im' 0 7 = im 0 7 + 1 ∧ ∀ a k, ¬ (50 ≤ a ∧ a ≤ 76) → ¬ (a = 0 ∧ k = 7) → im' a k = im a k) := by
  refine SpI.of [some (.ref 0)] rfl (by decide) rfl (fun Q hQ => ?_)
  refine bX9_image_0R ?_
  exact pX9_image_18 hR hI hR2.2.2.2.2.2.1.1 hR2.2.2.2.2.2.2.1 (fun x im' h1 h2 h3 h4 h5 => hQ _ _ ⟨h1, h2, h3, h4, h5⟩)

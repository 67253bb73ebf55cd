theorem LwR.kC49 {s : Nat → Int32} {u : Nat} {im im' : XI} (hu : u < 2) (h : LwR 49 s u im) (ha : ∀ a, 50 ≤ a → a < 77 → im' a = im a) : LwR 49 s u im' := by
  obtain ⟨h0, h3, c, hc, h1, h2⟩ := h
  refine ⟨by rw [ha _ (by omega) (by omega)]; exact h0, by rw [ha _ (by omega) (by omega)]; exact h3, c, hc, by rw [ha _ (by omega) (by omega)]; exact h1, fun hg => ⟨(h2 hg).1, fun k hkc => ?_⟩⟩
  rw [ha _ (by omega) (by omega)]
  exact (h2 hg).2 k hkc
theorem RI49 {s : Nat → Int32} {im im' : XI} {np nd : Nat} (hI : Iv s np nd) (h : RI 49 s im) (ha : ∀ a, 50 ≤ a → a < 77 → im' a = im a) : RI 49 s im' := by
  obtain ⟨⟨a1, a2, a3, a4⟩, hp, hd, ⟨t1, t2⟩, ⟨w1, w2⟩, l0, l1⟩ := h
  have hnp : nnat (s 4) ≤ 6 := by rw [nnp hI]; exact hI.1.1
  have hnd : nnat (s 5) ≤ 6 := by rw [nnd hI]; exact hI.2.1.1
  exact ⟨⟨by rw [ha _ (by omega) (by omega)]; exact a1, by rw [ha _ (by omega) (by omega)]; exact a2, by rw [ha _ (by omega) (by omega)]; exact a3, by rw [ha _ (by omega) (by omega)]; exact a4⟩, fun p hp' => by rw [ha _ (by omega) (by omega)]; exact hp p hp', fun d hd' => by rw [ha _ (by omega) (by omega)]; exact hd d hd', ⟨by rw [ha _ (by omega) (by omega)]; exact t1, fun k hk' => by rw [ha _ (by omega) (by omega)]; exact t2 k hk'⟩, ⟨by rw [ha _ (by omega) (by omega)]; exact w1, fun k hk' => by rw [ha _ (by omega) (by omega)]; exact w2 k hk'⟩, l0.kC49 (by omega) ha, l1.kC49 (by omega) ha⟩
theorem RI49_x {s : Nat → Int32} {im : XI} {np nd k : Nat} {v : Int32} (hI : Iv s np nd) (h : RI 49 s im) : RI 49 s (xup im 0 k v) := RI49 hI h (fun a _ _ => xup_o (by omega))

theorem xtr {bo : Bool} : (SC bo).1[34]? = some (.inl 6) ∧ (SC bo).2 34 0 = some 35 ∧ XA (SC bo) 35 30 := by
  cases bo <;> exact ⟨rfl, rfl, ⟨rfl, rfl⟩⟩
theorem trAdd {d n : Nat} {bo : Bool} {im : XI} {b : Int32} (h : im 34 1 = nI n) (hn : n < 30) : SpI mX6_add d [.ref 34, .int b] (SC bo) im (fun _ im' => im' = xup (xup im 35 n b) 34 1 (nI (n + 1))) :=
  SpI.mono (fun x im' h => by rcases h with ⟨_, _, h⟩ | ⟨h, _⟩; exact h; omega) (pX6_add xtr.1 xtr.2.1 xtr.2.2 h (by omega))
theorem pX8_blinks_k0 {d : Nat} {im : XI} {bo : Bool} {o p n : Nat} {m x0 : Int32} (h : VC im o p m n) (ho7 : o < 7) (hn : n + 1 ≤ 30) : SpI mX8_blinks (d + 1) [.ref 33, .int 0, .int x0] (SC bo) im (fun x im' => x = blV 0 (nI p) x0 ∧ im' = trC im n (blL 0)) := by
  refine SpI.of [some (.ref 33), some (.int 0), some (.int x0)] rfl (by decide) rfl (fun Q hQ => ?_)
  refine bX8_blinks_0 (fun c => absurd c (by decide)) (fun c => absurd c (by decide)) (fun c => absurd c (by decide)) (fun _ _ _ => ?_)
  refine bX8_blinks_87 (trAdd h.2.2.2 (by omega)) ?_
  rintro _ _ rfl
  refine bX8_blinks_96 ?_
  exact hQ _ _ ⟨by rw [(VC.s (b := 10) h).2.1]; rfl, rfl⟩
theorem pX8_blinks_k2 {d : Nat} {im : XI} {bo : Bool} {o p n : Nat} {m x0 : Int32} (h : VC im o p m n) (ho7 : o < 7) (hn : n + 1 ≤ 30) : SpI mX8_blinks (d + 1) [.ref 33, .int 2, .int x0] (SC bo) im (fun x im' => x = blV 2 (nI p) x0 ∧ im' = trC im n (blL 2)) := by
  refine SpI.of [some (.ref 33), some (.int 2), some (.int x0)] rfl (by decide) rfl (fun Q hQ => ?_)
  refine bX8_blinks_0 (fun c => absurd c (by decide)) (fun c => absurd c (by decide)) (fun c => absurd c (by decide)) (fun _ _ _ => ?_)
  refine bX8_blinks_87 (trAdd h.2.2.2 (by omega)) ?_
  rintro _ _ rfl
  refine bX8_blinks_96 ?_
  exact hQ _ _ ⟨by rw [(VC.s (b := 10) h).2.1]; rfl, rfl⟩
theorem pX8_blinks_k3 {d : Nat} {im : XI} {bo : Bool} {o p n : Nat} {m x0 : Int32} (h : VC im o p m n) (ho7 : o < 7) (hn : n + 1 ≤ 30) : SpI mX8_blinks (d + 1) [.ref 33, .int 3, .int x0] (SC bo) im (fun x im' => x = blV 3 (nI p) x0 ∧ im' = trC im n (blL 3)) := by
  refine SpI.of [some (.ref 33), some (.int 3), some (.int x0)] rfl (by decide) rfl (fun Q hQ => ?_)
  refine bX8_blinks_0 (fun c => absurd c (by decide)) (fun c => absurd c (by decide)) (fun c => absurd c (by decide)) (fun _ _ _ => ?_)
  refine bX8_blinks_87 (trAdd h.2.2.2 (by omega)) ?_
  rintro _ _ rfl
  refine bX8_blinks_96 ?_
  exact hQ _ _ ⟨by rw [(VC.s (b := 10) h).2.1]; rfl, rfl⟩
theorem pX8_blinks_k5 {d : Nat} {im : XI} {bo : Bool} {o p n : Nat} {m x0 : Int32} (h : VC im o p m n) (ho7 : o < 7) (hn : n + 1 ≤ 30) : SpI mX8_blinks (d + 1) [.ref 33, .int 5, .int x0] (SC bo) im (fun x im' => x = blV 5 (nI p) x0 ∧ im' = trC im n (blL 5)) := by
  refine SpI.of [some (.ref 33), some (.int 5), some (.int x0)] rfl (by decide) rfl (fun Q hQ => ?_)
  refine bX8_blinks_0 (fun c => absurd c (by decide)) (fun c => absurd c (by decide)) (fun c => absurd c (by decide)) (fun _ _ _ => ?_)
  refine bX8_blinks_87 (trAdd h.2.2.2 (by omega)) ?_
  rintro _ _ rfl
  refine bX8_blinks_96 ?_
  exact hQ _ _ ⟨by rw [(VC.s (b := 10) h).2.1]; rfl, rfl⟩
theorem pX8_blinks_k6 {d : Nat} {im : XI} {bo : Bool} {o p n : Nat} {m x0 : Int32} (h : VC im o p m n) (ho7 : o < 7) (hn : n + 1 ≤ 30) : SpI mX8_blinks (d + 1) [.ref 33, .int 6, .int x0] (SC bo) im (fun x im' => x = blV 6 (nI p) x0 ∧ im' = trC im n (blL 6)) := by
  refine SpI.of [some (.ref 33), some (.int 6), some (.int x0)] rfl (by decide) rfl (fun Q hQ => ?_)
  refine bX8_blinks_0 (fun c => absurd c (by decide)) (fun c => absurd c (by decide)) (fun _ => ?_) (fun c0 c1 c2 => absurd rfl c2)
  refine bX8_blinks_36 (trAdd h.2.2.2 (by omega)) ?_
  rintro _ _ rfl
  refine bX8_blinks_45 ?_
  exact hQ _ _ ⟨rfl, rfl⟩
theorem pX8_blinks_k1 {d : Nat} {im : XI} {bo : Bool} {o p n : Nat} {m x0 : Int32} (h : VC im o p m n) (ho7 : o < 7) (hn : n + 2 ≤ 30) : SpI mX8_blinks (d + 2) [.ref 33, .int 1, .int x0] (SC bo) im (fun x im' => x = blV 1 (nI p) x0 ∧ im' = trC im n (blL 1)) := by
  refine SpI.of [some (.ref 33), some (.int 1), some (.int x0)] rfl (by decide) rfl (fun Q hQ => ?_)
  refine bX8_blinks_0 (fun _ => ?_) (fun c => absurd c (by decide)) (fun c => absurd c (by decide)) (fun c0 c1 c2 => absurd rfl c0)
  refine bX8_blinks_68 (trAdd h.2.2.2 (by omega)) ?_
  rintro _ _ rfl
  refine bX8_blinks_77 (pX8_blinks_k0 (VC.s (b := 20) h) ho7 (by omega)) ?_
  rintro _ _ ⟨rfl, rfl⟩
  refine bX8_blinks_84 ?_
  exact hQ _ _ ⟨rfl, rfl⟩
theorem pX8_blinks_k4 {d : Nat} {im : XI} {bo : Bool} {o p n : Nat} {m x0 : Int32} (h : VC im o p m n) (ho7 : o < 7) (hn : n + 3 ≤ 30) : SpI mX8_blinks (d + 3) [.ref 33, .int 4, .int x0] (SC bo) im (fun x im' => x = blV 4 (nI p) x0 ∧ im' = trC im n (blL 4)) := by
  refine SpI.of [some (.ref 33), some (.int 4), some (.int x0)] rfl (by decide) rfl (fun Q hQ => ?_)
  refine bX8_blinks_0 (fun c => absurd c (by decide)) (fun _ => ?_) (fun c => absurd c (by decide)) (fun c0 c1 c2 => absurd rfl c1)
  refine bX8_blinks_49 (trAdd h.2.2.2 (by omega)) ?_
  rintro _ _ rfl
  refine bX8_blinks_58 (pX8_blinks_k1 (VC.s (b := 50) h) ho7 (by omega)) ?_
  rintro _ _ ⟨rfl, rfl⟩
  refine bX8_blinks_65 ?_
  exact hQ _ _ ⟨rfl, rfl⟩
theorem pX8_blinks {d : Nat} {im : XI} {bo : Bool} {o p n : Nat} {m x0 : Int32} {k : Nat} (hk : k < 7) (h : VC im o p m n) (ho7 : o < 7) (hn : n + 3 ≤ 30) : SpI mX8_blinks (d + 3) [.ref 33, .int (nI k), .int x0] (SC bo) im (fun x im' => x = blV k (nI p) x0 ∧ im' = trC im n (blL k)) := by
  match k, hk with
  | 0, _ => exact pX8_blinks_k0 (d := d + 2) h ho7 (by omega)
  | 1, _ => exact pX8_blinks_k1 (d := d + 1) h ho7 (by omega)
  | 2, _ => exact pX8_blinks_k2 (d := d + 2) h ho7 (by omega)
  | 3, _ => exact pX8_blinks_k3 (d := d + 2) h ho7 (by omega)
  | 4, _ => exact pX8_blinks_k4 (d := d + 0) h ho7 (by omega)
  | 5, _ => exact pX8_blinks_k5 (d := d + 2) h ho7 (by omega)
  | 6, _ => exact pX8_blinks_k6 (d := d + 2) h ho7 (by omega)
theorem pX8_moves_k0 {d : Nat} {im : XI} {bo : Bool} {o p n : Nat} {m x0 : Int32} (h : VC im o p m n) (ho7 : o < 7) (hn : n + 4 ≤ 30) : SpI mX8_moves (d + 4) [.ref 33, .int 0, .int x0] (SC bo) im (fun x im' => x = mvV 0 o (nI p) m x0 ∧ im' = trC im n (mvL 0 o)) := by
  refine SpI.of [some (.ref 33), some (.int 0), some (.int x0)] rfl (by decide) rfl (fun Q hQ => ?_)
  refine bX8_moves_0 (fun c => absurd c (by decide)) (fun c => absurd c (by decide)) (fun c => absurd c (by decide)) (fun _ _ _ => ?_)
  refine bX8_moves_96 (trAdd h.2.2.2 (by omega)) ?_
  rintro _ _ rfl
  have e2 : (xup (xup im 35 n 11) 34 1 (nI (n + 1))) 33 2 = nI o := (VC.s (b := 11) h).1
  refine bX8_moves_105 (by rw [e2]; exact pX8_blinks ho7 (VC.s (b := 11) h) ho7 (by omega)) ?_
  rintro _ _ ⟨rfl, rfl⟩
  refine bX8_moves_115 ?_
  exact hQ _ _ ⟨rfl, rfl⟩
theorem pX8_moves_k1 {d : Nat} {im : XI} {bo : Bool} {o p n : Nat} {m x0 : Int32} (h : VC im o p m n) (ho7 : o < 7) (hn : n + 4 ≤ 30) : SpI mX8_moves (d + 4) [.ref 33, .int 1, .int x0] (SC bo) im (fun x im' => x = mvV 1 o (nI p) m x0 ∧ im' = trC im n (mvL 1 o)) := by
  refine SpI.of [some (.ref 33), some (.int 1), some (.int x0)] rfl (by decide) rfl (fun Q hQ => ?_)
  refine bX8_moves_0 (fun c => absurd c (by decide)) (fun c => absurd c (by decide)) (fun c => absurd c (by decide)) (fun _ _ _ => ?_)
  refine bX8_moves_96 (trAdd h.2.2.2 (by omega)) ?_
  rintro _ _ rfl
  have e2 : (xup (xup im 35 n 11) 34 1 (nI (n + 1))) 33 2 = nI o := (VC.s (b := 11) h).1
  refine bX8_moves_105 (by rw [e2]; exact pX8_blinks ho7 (VC.s (b := 11) h) ho7 (by omega)) ?_
  rintro _ _ ⟨rfl, rfl⟩
  refine bX8_moves_115 ?_
  exact hQ _ _ ⟨rfl, rfl⟩
theorem pX8_moves_k3 {d : Nat} {im : XI} {bo : Bool} {o p n : Nat} {m x0 : Int32} (h : VC im o p m n) (ho7 : o < 7) (hn : n + 4 ≤ 30) : SpI mX8_moves (d + 4) [.ref 33, .int 3, .int x0] (SC bo) im (fun x im' => x = mvV 3 o (nI p) m x0 ∧ im' = trC im n (mvL 3 o)) := by
  refine SpI.of [some (.ref 33), some (.int 3), some (.int x0)] rfl (by decide) rfl (fun Q hQ => ?_)
  refine bX8_moves_0 (fun c => absurd c (by decide)) (fun c => absurd c (by decide)) (fun c => absurd c (by decide)) (fun _ _ _ => ?_)
  refine bX8_moves_96 (trAdd h.2.2.2 (by omega)) ?_
  rintro _ _ rfl
  have e2 : (xup (xup im 35 n 11) 34 1 (nI (n + 1))) 33 2 = nI o := (VC.s (b := 11) h).1
  refine bX8_moves_105 (by rw [e2]; exact pX8_blinks ho7 (VC.s (b := 11) h) ho7 (by omega)) ?_
  rintro _ _ ⟨rfl, rfl⟩
  refine bX8_moves_115 ?_
  exact hQ _ _ ⟨rfl, rfl⟩
theorem pX8_moves_k4 {d : Nat} {im : XI} {bo : Bool} {o p n : Nat} {m x0 : Int32} (h : VC im o p m n) (ho7 : o < 7) (hn : n + 4 ≤ 30) : SpI mX8_moves (d + 4) [.ref 33, .int 4, .int x0] (SC bo) im (fun x im' => x = mvV 4 o (nI p) m x0 ∧ im' = trC im n (mvL 4 o)) := by
  refine SpI.of [some (.ref 33), some (.int 4), some (.int x0)] rfl (by decide) rfl (fun Q hQ => ?_)
  refine bX8_moves_0 (fun c => absurd c (by decide)) (fun c => absurd c (by decide)) (fun c => absurd c (by decide)) (fun _ _ _ => ?_)
  refine bX8_moves_96 (trAdd h.2.2.2 (by omega)) ?_
  rintro _ _ rfl
  have e2 : (xup (xup im 35 n 11) 34 1 (nI (n + 1))) 33 2 = nI o := (VC.s (b := 11) h).1
  refine bX8_moves_105 (by rw [e2]; exact pX8_blinks ho7 (VC.s (b := 11) h) ho7 (by omega)) ?_
  rintro _ _ ⟨rfl, rfl⟩
  refine bX8_moves_115 ?_
  exact hQ _ _ ⟨rfl, rfl⟩
theorem pX8_moves_k2 {d : Nat} {im : XI} {bo : Bool} {o p n : Nat} {m x0 : Int32} (h : VC im o p m n) (ho7 : o < 7) (hn : n + 5 ≤ 30) : SpI mX8_moves (d + 5) [.ref 33, .int 2, .int x0] (SC bo) im (fun x im' => x = mvV 2 o (nI p) m x0 ∧ im' = trC im n (mvL 2 o)) := by
  refine SpI.of [some (.ref 33), some (.int 2), some (.int x0)] rfl (by decide) rfl (fun Q hQ => ?_)
  refine bX8_moves_0 (fun _ => ?_) (fun c => absurd c (by decide)) (fun c => absurd c (by decide)) (fun c0 c1 c2 => absurd rfl c0)
  refine bX8_moves_77 (trAdd h.2.2.2 (by omega)) ?_
  rintro _ _ rfl
  refine bX8_moves_86 (pX8_moves_k0 (VC.s (b := 30) h) ho7 (by omega)) ?_
  rintro _ _ ⟨rfl, rfl⟩
  refine bX8_moves_94 ?_
  exact hQ _ _ ⟨rfl, rfl⟩
theorem pX8_moves_k5 {d : Nat} {im : XI} {bo : Bool} {o p n : Nat} {m x0 : Int32} (h : VC im o p m n) (ho7 : o < 7) (hn : n + 6 ≤ 30) : SpI mX8_moves (d + 6) [.ref 33, .int 5, .int x0] (SC bo) im (fun x im' => x = mvV 5 o (nI p) m x0 ∧ im' = trC im n (mvL 5 o)) := by
  refine SpI.of [some (.ref 33), some (.int 5), some (.int x0)] rfl (by decide) rfl (fun Q hQ => ?_)
  refine bX8_moves_0 (fun c => absurd c (by decide)) (fun _ => ?_) (fun c => absurd c (by decide)) (fun c0 c1 c2 => absurd rfl c1)
  refine bX8_moves_58 (trAdd h.2.2.2 (by omega)) ?_
  rintro _ _ rfl
  refine bX8_moves_67 (pX8_moves_k2 (VC.s (b := 60) h) ho7 (by omega)) ?_
  rintro _ _ ⟨rfl, rfl⟩
  refine bX8_moves_76 ?_
  exact hQ _ _ ⟨rfl, rfl⟩
theorem pX8_moves_k6 {d : Nat} {im : XI} {bo : Bool} {o p n : Nat} {m x0 : Int32} (h : VC im o p m n) (ho7 : o < 7) (hn : n + 5 ≤ 30) : SpI mX8_moves (d + 5) [.ref 33, .int 6, .int x0] (SC bo) im (fun x im' => x = mvV 6 o (nI p) m x0 ∧ im' = trC im n (mvL 6 o)) := by
  refine SpI.of [some (.ref 33), some (.int 6), some (.int x0)] rfl (by decide) rfl (fun Q hQ => ?_)
  refine bX8_moves_0 (fun c => absurd c (by decide)) (fun c => absurd c (by decide)) (fun _ => ?_) (fun c0 c1 c2 => absurd rfl c2)
  refine bX8_moves_36 (trAdd h.2.2.2 (by omega)) ?_
  rintro _ _ rfl
  refine bX8_moves_45 (pX8_moves_k0 (VC.s (b := 71) h) ho7 (by omega)) ?_
  rintro _ _ ⟨rfl, rfl⟩
  refine bX8_moves_52 ?_
  exact hQ _ _ ⟨by rw [(VC.t (l := mvL 0 o) (VC.s (b := 71) h)).2.2.1]; rfl, rfl⟩
theorem pX8_moves {d : Nat} {im : XI} {bo : Bool} {o p n : Nat} {m x0 : Int32} {k : Nat} (hk : k < 7) (h : VC im o p m n) (ho7 : o < 7) (hn : n + 6 ≤ 30) : SpI mX8_moves (d + 6) [.ref 33, .int (nI k), .int x0] (SC bo) im (fun x im' => x = mvV k o (nI p) m x0 ∧ im' = trC im n (mvL k o)) := by
  match k, hk with
  | 0, _ => exact pX8_moves_k0 (d := d + 2) h ho7 (by omega)
  | 1, _ => exact pX8_moves_k1 (d := d + 2) h ho7 (by omega)
  | 2, _ => exact pX8_moves_k2 (d := d + 1) h ho7 (by omega)
  | 3, _ => exact pX8_moves_k3 (d := d + 2) h ho7 (by omega)
  | 4, _ => exact pX8_moves_k4 (d := d + 2) h ho7 (by omega)
  | 5, _ => exact pX8_moves_k5 (d := d + 0) h ho7 (by omega)
  | 6, _ => exact pX8_moves_k6 (d := d + 1) h ho7 (by omega)
theorem pX8_looks_k0 {d : Nat} {im : XI} {bo : Bool} {o p n : Nat} {m x0 : Int32} (h : VC im o p m n) (ho7 : o < 7) (hn : n + 7 ≤ 30) : SpI mX8_looks (d + 7) [.ref 33, .int 0, .int x0] (SC bo) im (fun x im' => x = lkV 0 o (nI p) m x0 ∧ im' = trC im n (lkL 0 o)) := by
  refine SpI.of [some (.ref 33), some (.int 0), some (.int x0)] rfl (by decide) rfl (fun Q hQ => ?_)
  refine bX8_looks_0 (fun c => absurd c (by decide)) (fun c => absurd c (by decide)) (fun _ _ => ?_)
  refine bX8_looks_69 (trAdd h.2.2.2 (by omega)) ?_
  rintro _ _ rfl
  have e2 : (xup (xup im 35 n 12) 34 1 (nI (n + 1))) 33 2 = nI o := (VC.s (b := 12) h).1
  refine bX8_looks_78 (by rw [e2]; exact pX8_moves ho7 (VC.s (b := 12) h) ho7 (by omega)) ?_
  rintro _ _ ⟨rfl, rfl⟩
  refine bX8_looks_88 ?_
  exact hQ _ _ ⟨by rw [(VC.t (l := mvL o o) (VC.s (b := 12) h)).2.2.1]; rfl, rfl⟩
theorem pX8_looks_k1 {d : Nat} {im : XI} {bo : Bool} {o p n : Nat} {m x0 : Int32} (h : VC im o p m n) (ho7 : o < 7) (hn : n + 7 ≤ 30) : SpI mX8_looks (d + 7) [.ref 33, .int 1, .int x0] (SC bo) im (fun x im' => x = lkV 1 o (nI p) m x0 ∧ im' = trC im n (lkL 1 o)) := by
  refine SpI.of [some (.ref 33), some (.int 1), some (.int x0)] rfl (by decide) rfl (fun Q hQ => ?_)
  refine bX8_looks_0 (fun c => absurd c (by decide)) (fun c => absurd c (by decide)) (fun _ _ => ?_)
  refine bX8_looks_69 (trAdd h.2.2.2 (by omega)) ?_
  rintro _ _ rfl
  have e2 : (xup (xup im 35 n 12) 34 1 (nI (n + 1))) 33 2 = nI o := (VC.s (b := 12) h).1
  refine bX8_looks_78 (by rw [e2]; exact pX8_moves ho7 (VC.s (b := 12) h) ho7 (by omega)) ?_
  rintro _ _ ⟨rfl, rfl⟩
  refine bX8_looks_88 ?_
  exact hQ _ _ ⟨by rw [(VC.t (l := mvL o o) (VC.s (b := 12) h)).2.2.1]; rfl, rfl⟩
theorem pX8_looks_k2 {d : Nat} {im : XI} {bo : Bool} {o p n : Nat} {m x0 : Int32} (h : VC im o p m n) (ho7 : o < 7) (hn : n + 7 ≤ 30) : SpI mX8_looks (d + 7) [.ref 33, .int 2, .int x0] (SC bo) im (fun x im' => x = lkV 2 o (nI p) m x0 ∧ im' = trC im n (lkL 2 o)) := by
  refine SpI.of [some (.ref 33), some (.int 2), some (.int x0)] rfl (by decide) rfl (fun Q hQ => ?_)
  refine bX8_looks_0 (fun c => absurd c (by decide)) (fun c => absurd c (by decide)) (fun _ _ => ?_)
  refine bX8_looks_69 (trAdd h.2.2.2 (by omega)) ?_
  rintro _ _ rfl
  have e2 : (xup (xup im 35 n 12) 34 1 (nI (n + 1))) 33 2 = nI o := (VC.s (b := 12) h).1
  refine bX8_looks_78 (by rw [e2]; exact pX8_moves ho7 (VC.s (b := 12) h) ho7 (by omega)) ?_
  rintro _ _ ⟨rfl, rfl⟩
  refine bX8_looks_88 ?_
  exact hQ _ _ ⟨by rw [(VC.t (l := mvL o o) (VC.s (b := 12) h)).2.2.1]; rfl, rfl⟩
theorem pX8_looks_k5 {d : Nat} {im : XI} {bo : Bool} {o p n : Nat} {m x0 : Int32} (h : VC im o p m n) (ho7 : o < 7) (hn : n + 7 ≤ 30) : SpI mX8_looks (d + 7) [.ref 33, .int 5, .int x0] (SC bo) im (fun x im' => x = lkV 5 o (nI p) m x0 ∧ im' = trC im n (lkL 5 o)) := by
  refine SpI.of [some (.ref 33), some (.int 5), some (.int x0)] rfl (by decide) rfl (fun Q hQ => ?_)
  refine bX8_looks_0 (fun c => absurd c (by decide)) (fun c => absurd c (by decide)) (fun _ _ => ?_)
  refine bX8_looks_69 (trAdd h.2.2.2 (by omega)) ?_
  rintro _ _ rfl
  have e2 : (xup (xup im 35 n 12) 34 1 (nI (n + 1))) 33 2 = nI o := (VC.s (b := 12) h).1
  refine bX8_looks_78 (by rw [e2]; exact pX8_moves ho7 (VC.s (b := 12) h) ho7 (by omega)) ?_
  rintro _ _ ⟨rfl, rfl⟩
  refine bX8_looks_88 ?_
  exact hQ _ _ ⟨by rw [(VC.t (l := mvL o o) (VC.s (b := 12) h)).2.2.1]; rfl, rfl⟩
theorem pX8_looks_k6 {d : Nat} {im : XI} {bo : Bool} {o p n : Nat} {m x0 : Int32} (h : VC im o p m n) (ho7 : o < 7) (hn : n + 7 ≤ 30) : SpI mX8_looks (d + 7) [.ref 33, .int 6, .int x0] (SC bo) im (fun x im' => x = lkV 6 o (nI p) m x0 ∧ im' = trC im n (lkL 6 o)) := by
  refine SpI.of [some (.ref 33), some (.int 6), some (.int x0)] rfl (by decide) rfl (fun Q hQ => ?_)
  refine bX8_looks_0 (fun c => absurd c (by decide)) (fun c => absurd c (by decide)) (fun _ _ => ?_)
  refine bX8_looks_69 (trAdd h.2.2.2 (by omega)) ?_
  rintro _ _ rfl
  have e2 : (xup (xup im 35 n 12) 34 1 (nI (n + 1))) 33 2 = nI o := (VC.s (b := 12) h).1
  refine bX8_looks_78 (by rw [e2]; exact pX8_moves ho7 (VC.s (b := 12) h) ho7 (by omega)) ?_
  rintro _ _ ⟨rfl, rfl⟩
  refine bX8_looks_88 ?_
  exact hQ _ _ ⟨by rw [(VC.t (l := mvL o o) (VC.s (b := 12) h)).2.2.1]; rfl, rfl⟩
theorem pX8_looks_k3 {d : Nat} {im : XI} {bo : Bool} {o p n : Nat} {m x0 : Int32} (h : VC im o p m n) (ho7 : o < 7) (hn : n + 8 ≤ 30) : SpI mX8_looks (d + 8) [.ref 33, .int 3, .int x0] (SC bo) im (fun x im' => x = lkV 3 o (nI p) m x0 ∧ im' = trC im n (lkL 3 o)) := by
  refine SpI.of [some (.ref 33), some (.int 3), some (.int x0)] rfl (by decide) rfl (fun Q hQ => ?_)
  refine bX8_looks_0 (fun _ => ?_) (fun c => absurd c (by decide)) (fun c0 c1 => absurd rfl c0)
  refine bX8_looks_50 (trAdd h.2.2.2 (by omega)) ?_
  rintro _ _ rfl
  refine bX8_looks_59 (pX8_looks_k0 (VC.s (b := 40) h) ho7 (by omega)) ?_
  rintro _ _ ⟨rfl, rfl⟩
  refine bX8_looks_68 ?_
  exact hQ _ _ ⟨rfl, rfl⟩
theorem pX8_looks_k4 {d : Nat} {im : XI} {bo : Bool} {o p n : Nat} {m x0 : Int32} (h : VC im o p m n) (ho7 : o < 7) (hn : n + 8 ≤ 30) : SpI mX8_looks (d + 8) [.ref 33, .int 4, .int x0] (SC bo) im (fun x im' => x = lkV 4 o (nI p) m x0 ∧ im' = trC im n (lkL 4 o)) := by
  refine SpI.of [some (.ref 33), some (.int 4), some (.int x0)] rfl (by decide) rfl (fun Q hQ => ?_)
  refine bX8_looks_0 (fun c => absurd c (by decide)) (fun _ => ?_) (fun c0 c1 => absurd rfl c1)
  refine bX8_looks_28 (trAdd h.2.2.2 (by omega)) ?_
  rintro _ _ rfl
  refine bX8_looks_37 (pX8_looks_k1 (VC.s (b := 51) h) ho7 (by omega)) ?_
  rintro _ _ ⟨rfl, rfl⟩
  refine bX8_looks_44 ?_
  exact hQ _ _ ⟨by rw [(VC.t (l := lkL 1 o) (VC.s (b := 51) h)).2.1]; rfl, rfl⟩
theorem pX8_looks {d : Nat} {im : XI} {bo : Bool} {o p n : Nat} {m x0 : Int32} {k : Nat} (hk : k < 7) (h : VC im o p m n) (ho7 : o < 7) (hn : n + 8 ≤ 30) : SpI mX8_looks (d + 8) [.ref 33, .int (nI k), .int x0] (SC bo) im (fun x im' => x = lkV k o (nI p) m x0 ∧ im' = trC im n (lkL k o)) := by
  match k, hk with
  | 0, _ => exact pX8_looks_k0 (d := d + 1) h ho7 (by omega)
  | 1, _ => exact pX8_looks_k1 (d := d + 1) h ho7 (by omega)
  | 2, _ => exact pX8_looks_k2 (d := d + 1) h ho7 (by omega)
  | 3, _ => exact pX8_looks_k3 (d := d + 0) h ho7 (by omega)
  | 4, _ => exact pX8_looks_k4 (d := d + 0) h ho7 (by omega)
  | 5, _ => exact pX8_looks_k5 (d := d + 1) h ho7 (by omega)
  | 6, _ => exact pX8_looks_k6 (d := d + 1) h ho7 (by omega)
theorem pX8_parts_k0 {d : Nat} {im : XI} {bo : Bool} {o p n : Nat} {m x0 : Int32} (h : VC im o p m n) (ho7 : o < 7) (hn : n + 1 ≤ 30) : SpI mX8_parts (d + 1) [.ref 33, .int 0, .int x0] (SC bo) im (fun x im' => x = ptV 0 o (nI p) m x0 ∧ im' = xup (trC im n (ptL 0 o (nI p) m)) 33 1 (b2i (m - nI p = 0))) := by
  refine SpI.of [some (.ref 33), some (.int 0), some (.int x0), none] rfl (by decide) rfl (fun Q hQ => ?_)
  refine bX8_parts_0 (fun c => absurd c (by decide)) (fun _ => ?_)
  refine bX8_parts_5 (fun _ => ?_) (fun c => absurd c (by decide))
  refine bX8_parts_50 (trAdd h.2.2.2 (by omega)) ?_
  rintro _ _ rfl
  have e3 : (xup (xup im 35 n 13) 34 1 (nI (n + 1))) 33 3 = nI p := (VC.s (b := 13) h).2.1
  have e4 : (xup (xup im 35 n 13) 34 1 (nI (n + 1))) 33 4 = m := (VC.s (b := 13) h).2.2.1
  have x8 : (SC bo).1[33]? = some (.inl 8) := by cases bo <;> rfl
  refine bX8_parts_59 (fun c => ?_) (fun c => ?_)
  · rw [e3, e4] at c ⊢
    refine bX8_parts_79 ?_
    have hb : b2i (m - nI p = 0) = 0 := b2i_f c
    refine bX8_parts_80 x8 (Or.inl rfl) (fun c2 => ?_) (fun c2 => absurd c2 c)
    refine bX8_parts_91 c ?_
    refine bX8_parts_94 ?_
    refine hQ _ _ ⟨?_, by rw [hb]; rfl⟩
    show _ = ptB (nI p) m x0
    unfold ptB
    rw [if_neg c]
    by_cases h1 : m - nI p = -1
    · rw [if_pos h1, h1, div_m1]
    · rw [if_neg h1]
  · rw [e3, e4] at c ⊢
    refine bX8_parts_75 ?_
    have hb : b2i (m - nI p = 0) = 1 := b2i_t c
    refine bX8_parts_80 x8 (Or.inr rfl) (fun c2 => absurd c c2) (fun c2 => ?_)
    refine bX8_parts_87 ?_
    refine bX8_parts_94 ?_
    refine hQ _ _ ⟨?_, by rw [hb]; rfl⟩
    show _ = ptB (nI p) m x0
    unfold ptB
    rw [if_pos c]
theorem pX8_parts_k2 {d : Nat} {im : XI} {bo : Bool} {o p n : Nat} {m x0 : Int32} (h : VC im o p m n) (ho7 : o < 7) (hn : n + 1 ≤ 30) : SpI mX8_parts (d + 1) [.ref 33, .int 2, .int x0] (SC bo) im (fun x im' => x = ptV 2 o (nI p) m x0 ∧ im' = xup (trC im n (ptL 2 o (nI p) m)) 33 1 (b2i (m - nI p = 0))) := by
  refine SpI.of [some (.ref 33), some (.int 2), some (.int x0), none] rfl (by decide) rfl (fun Q hQ => ?_)
  refine bX8_parts_0 (fun c => absurd c (by decide)) (fun _ => ?_)
  refine bX8_parts_5 (fun _ => ?_) (fun c => absurd c (by decide))
  refine bX8_parts_50 (trAdd h.2.2.2 (by omega)) ?_
  rintro _ _ rfl
  have e3 : (xup (xup im 35 n 13) 34 1 (nI (n + 1))) 33 3 = nI p := (VC.s (b := 13) h).2.1
  have e4 : (xup (xup im 35 n 13) 34 1 (nI (n + 1))) 33 4 = m := (VC.s (b := 13) h).2.2.1
  have x8 : (SC bo).1[33]? = some (.inl 8) := by cases bo <;> rfl
  refine bX8_parts_59 (fun c => ?_) (fun c => ?_)
  · rw [e3, e4] at c ⊢
    refine bX8_parts_79 ?_
    have hb : b2i (m - nI p = 0) = 0 := b2i_f c
    refine bX8_parts_80 x8 (Or.inl rfl) (fun c2 => ?_) (fun c2 => absurd c2 c)
    refine bX8_parts_91 c ?_
    refine bX8_parts_94 ?_
    refine hQ _ _ ⟨?_, by rw [hb]; rfl⟩
    show _ = ptB (nI p) m x0
    unfold ptB
    rw [if_neg c]
    by_cases h1 : m - nI p = -1
    · rw [if_pos h1, h1, div_m1]
    · rw [if_neg h1]
  · rw [e3, e4] at c ⊢
    refine bX8_parts_75 ?_
    have hb : b2i (m - nI p = 0) = 1 := b2i_t c
    refine bX8_parts_80 x8 (Or.inr rfl) (fun c2 => absurd c c2) (fun c2 => ?_)
    refine bX8_parts_87 ?_
    refine bX8_parts_94 ?_
    refine hQ _ _ ⟨?_, by rw [hb]; rfl⟩
    show _ = ptB (nI p) m x0
    unfold ptB
    rw [if_pos c]
theorem pX8_parts_k3 {d : Nat} {im : XI} {bo : Bool} {o p n : Nat} {m x0 : Int32} (h : VC im o p m n) (ho7 : o < 7) (hn : n + 1 ≤ 30) : SpI mX8_parts (d + 1) [.ref 33, .int 3, .int x0] (SC bo) im (fun x im' => x = ptV 3 o (nI p) m x0 ∧ im' = xup (trC im n (ptL 3 o (nI p) m)) 33 1 (b2i (m - nI p = 0))) := by
  refine SpI.of [some (.ref 33), some (.int 3), some (.int x0), none] rfl (by decide) rfl (fun Q hQ => ?_)
  refine bX8_parts_0 (fun c => absurd c (by decide)) (fun _ => ?_)
  refine bX8_parts_5 (fun _ => ?_) (fun c => absurd c (by decide))
  refine bX8_parts_50 (trAdd h.2.2.2 (by omega)) ?_
  rintro _ _ rfl
  have e3 : (xup (xup im 35 n 13) 34 1 (nI (n + 1))) 33 3 = nI p := (VC.s (b := 13) h).2.1
  have e4 : (xup (xup im 35 n 13) 34 1 (nI (n + 1))) 33 4 = m := (VC.s (b := 13) h).2.2.1
  have x8 : (SC bo).1[33]? = some (.inl 8) := by cases bo <;> rfl
  refine bX8_parts_59 (fun c => ?_) (fun c => ?_)
  · rw [e3, e4] at c ⊢
    refine bX8_parts_79 ?_
    have hb : b2i (m - nI p = 0) = 0 := b2i_f c
    refine bX8_parts_80 x8 (Or.inl rfl) (fun c2 => ?_) (fun c2 => absurd c2 c)
    refine bX8_parts_91 c ?_
    refine bX8_parts_94 ?_
    refine hQ _ _ ⟨?_, by rw [hb]; rfl⟩
    show _ = ptB (nI p) m x0
    unfold ptB
    rw [if_neg c]
    by_cases h1 : m - nI p = -1
    · rw [if_pos h1, h1, div_m1]
    · rw [if_neg h1]
  · rw [e3, e4] at c ⊢
    refine bX8_parts_75 ?_
    have hb : b2i (m - nI p = 0) = 1 := b2i_t c
    refine bX8_parts_80 x8 (Or.inr rfl) (fun c2 => absurd c c2) (fun c2 => ?_)
    refine bX8_parts_87 ?_
    refine bX8_parts_94 ?_
    refine hQ _ _ ⟨?_, by rw [hb]; rfl⟩
    show _ = ptB (nI p) m x0
    unfold ptB
    rw [if_pos c]
theorem pX8_parts_k5 {d : Nat} {im : XI} {bo : Bool} {o p n : Nat} {m x0 : Int32} (h : VC im o p m n) (ho7 : o < 7) (hn : n + 1 ≤ 30) : SpI mX8_parts (d + 1) [.ref 33, .int 5, .int x0] (SC bo) im (fun x im' => x = ptV 5 o (nI p) m x0 ∧ im' = xup (trC im n (ptL 5 o (nI p) m)) 33 1 (b2i (m - nI p = 0))) := by
  refine SpI.of [some (.ref 33), some (.int 5), some (.int x0), none] rfl (by decide) rfl (fun Q hQ => ?_)
  refine bX8_parts_0 (fun c => absurd c (by decide)) (fun _ => ?_)
  refine bX8_parts_5 (fun _ => ?_) (fun c => absurd c (by decide))
  refine bX8_parts_50 (trAdd h.2.2.2 (by omega)) ?_
  rintro _ _ rfl
  have e3 : (xup (xup im 35 n 13) 34 1 (nI (n + 1))) 33 3 = nI p := (VC.s (b := 13) h).2.1
  have e4 : (xup (xup im 35 n 13) 34 1 (nI (n + 1))) 33 4 = m := (VC.s (b := 13) h).2.2.1
  have x8 : (SC bo).1[33]? = some (.inl 8) := by cases bo <;> rfl
  refine bX8_parts_59 (fun c => ?_) (fun c => ?_)
  · rw [e3, e4] at c ⊢
    refine bX8_parts_79 ?_
    have hb : b2i (m - nI p = 0) = 0 := b2i_f c
    refine bX8_parts_80 x8 (Or.inl rfl) (fun c2 => ?_) (fun c2 => absurd c2 c)
    refine bX8_parts_91 c ?_
    refine bX8_parts_94 ?_
    refine hQ _ _ ⟨?_, by rw [hb]; rfl⟩
    show _ = ptB (nI p) m x0
    unfold ptB
    rw [if_neg c]
    by_cases h1 : m - nI p = -1
    · rw [if_pos h1, h1, div_m1]
    · rw [if_neg h1]
  · rw [e3, e4] at c ⊢
    refine bX8_parts_75 ?_
    have hb : b2i (m - nI p = 0) = 1 := b2i_t c
    refine bX8_parts_80 x8 (Or.inr rfl) (fun c2 => absurd c c2) (fun c2 => ?_)
    refine bX8_parts_87 ?_
    refine bX8_parts_94 ?_
    refine hQ _ _ ⟨?_, by rw [hb]; rfl⟩
    show _ = ptB (nI p) m x0
    unfold ptB
    rw [if_pos c]
theorem pX8_parts_k6 {d : Nat} {im : XI} {bo : Bool} {o p n : Nat} {m x0 : Int32} (h : VC im o p m n) (ho7 : o < 7) (hn : n + 1 ≤ 30) : SpI mX8_parts (d + 1) [.ref 33, .int 6, .int x0] (SC bo) im (fun x im' => x = ptV 6 o (nI p) m x0 ∧ im' = xup (trC im n (ptL 6 o (nI p) m)) 33 1 (b2i (m - nI p = 0))) := by
  refine SpI.of [some (.ref 33), some (.int 6), some (.int x0), none] rfl (by decide) rfl (fun Q hQ => ?_)
  refine bX8_parts_0 (fun c => absurd c (by decide)) (fun _ => ?_)
  refine bX8_parts_5 (fun _ => ?_) (fun c => absurd c (by decide))
  refine bX8_parts_50 (trAdd h.2.2.2 (by omega)) ?_
  rintro _ _ rfl
  have e3 : (xup (xup im 35 n 13) 34 1 (nI (n + 1))) 33 3 = nI p := (VC.s (b := 13) h).2.1
  have e4 : (xup (xup im 35 n 13) 34 1 (nI (n + 1))) 33 4 = m := (VC.s (b := 13) h).2.2.1
  have x8 : (SC bo).1[33]? = some (.inl 8) := by cases bo <;> rfl
  refine bX8_parts_59 (fun c => ?_) (fun c => ?_)
  · rw [e3, e4] at c ⊢
    refine bX8_parts_79 ?_
    have hb : b2i (m - nI p = 0) = 0 := b2i_f c
    refine bX8_parts_80 x8 (Or.inl rfl) (fun c2 => ?_) (fun c2 => absurd c2 c)
    refine bX8_parts_91 c ?_
    refine bX8_parts_94 ?_
    refine hQ _ _ ⟨?_, by rw [hb]; rfl⟩
    show _ = ptB (nI p) m x0
    unfold ptB
    rw [if_neg c]
    by_cases h1 : m - nI p = -1
    · rw [if_pos h1, h1, div_m1]
    · rw [if_neg h1]
  · rw [e3, e4] at c ⊢
    refine bX8_parts_75 ?_
    have hb : b2i (m - nI p = 0) = 1 := b2i_t c
    refine bX8_parts_80 x8 (Or.inr rfl) (fun c2 => absurd c c2) (fun c2 => ?_)
    refine bX8_parts_87 ?_
    refine bX8_parts_94 ?_
    refine hQ _ _ ⟨?_, by rw [hb]; rfl⟩
    show _ = ptB (nI p) m x0
    unfold ptB
    rw [if_pos c]
theorem pX8_parts_k1 {d : Nat} {im : XI} {bo : Bool} {o p n : Nat} {m x0 : Int32} (h : VC im o p m n) (ho7 : o < 7) (hn : n + 8 ≤ 30) : SpI mX8_parts (d + 7) [.ref 33, .int 1, .int x0] (SC bo) im (fun x im' => x = ptV 1 o (nI p) m x0 ∧ im' = xup (trC im n (ptL 1 o (nI p) m)) 33 1 (b2i (m - nI p = 0))) := by
  refine SpI.of [some (.ref 33), some (.int 1), some (.int x0), none] rfl (by decide) rfl (fun Q hQ => ?_)
  refine bX8_parts_0 (fun _ => ?_) (fun c => absurd rfl c)
  refine bX8_parts_10 (trAdd h.2.2.2 (by omega)) ?_
  rintro _ _ rfl
  refine bX8_parts_19 (pX8_parts_k0 (VC.s (b := 21) h) ho7 (by omega)) ?_
  rintro _ _ ⟨rfl, rfl⟩
  have hp0 : ptL 0 o (nI p) m = [13] := rfl
  have hv0 : ptV 0 o (nI p) m x0 = ptB (nI p) m x0 := rfl
  have hV : VC (xup (trC (xup (xup im 35 n 21) 34 1 (nI (n + 1))) (n + 1) (ptL 0 o (nI p) m)) 33 1 (b2i (m - nI p = 0))) o p m (n + 2) := VC.p (VC.t (l := [13]) (VC.s (b := 21) h))
  refine bX8_parts_26 (fun c => ?_) (fun c => ?_)
  · rw [xup_at, b2i_z] at c
    refine bX8_parts_38 (by rw [hV.1]; exact pX8_moves (n := n + 2) ho7 hV ho7 (by omega)) ?_
    rintro _ _ ⟨rfl, rfl⟩
    refine bX8_parts_48 ?_
    refine bX8_parts_49 ?_
    refine hQ _ _ ⟨?_, ?_⟩
    · unfold ptV
      rw [if_neg (c := 0 = 1 ∨ 0 = 4) (by decide), if_pos (c := 1 = 1 ∨ 1 = 4) (by decide), if_neg c]
    · rw [trC_c]
      congr 1
      unfold ptL
      rw [if_pos (c := 1 = 1 ∨ 1 = 4) (by decide), if_neg c]
      rfl
  · rw [xup_at, b2i_nz] at c
    refine bX8_parts_34 ?_
    refine bX8_parts_49 ?_
    refine hQ _ _ ⟨?_, ?_⟩
    · unfold ptV
      rw [if_pos (c := 1 = 1 ∨ 1 = 4) (by decide), if_pos c]
    · congr 1
      unfold ptL
      rw [if_pos (c := 1 = 1 ∨ 1 = 4) (by decide), if_pos c]
      rfl
theorem pX8_parts_k4 {d : Nat} {im : XI} {bo : Bool} {o p n : Nat} {m x0 : Int32} (h : VC im o p m n) (ho7 : o < 7) (hn : n + 8 ≤ 30) : SpI mX8_parts (d + 7) [.ref 33, .int 4, .int x0] (SC bo) im (fun x im' => x = ptV 4 o (nI p) m x0 ∧ im' = xup (trC im n (ptL 4 o (nI p) m)) 33 1 (b2i (m - nI p = 0))) := by
  refine SpI.of [some (.ref 33), some (.int 4), some (.int x0), none] rfl (by decide) rfl (fun Q hQ => ?_)
  refine bX8_parts_0 (fun c => absurd c (by decide)) (fun _ => ?_)
  refine bX8_parts_5 (fun c => absurd rfl c) (fun _ => ?_)
  refine bX8_parts_10 (trAdd h.2.2.2 (by omega)) ?_
  rintro _ _ rfl
  refine bX8_parts_19 (pX8_parts_k0 (VC.s (b := 21) h) ho7 (by omega)) ?_
  rintro _ _ ⟨rfl, rfl⟩
  have hp0 : ptL 0 o (nI p) m = [13] := rfl
  have hv0 : ptV 0 o (nI p) m x0 = ptB (nI p) m x0 := rfl
  have hV : VC (xup (trC (xup (xup im 35 n 21) 34 1 (nI (n + 1))) (n + 1) (ptL 0 o (nI p) m)) 33 1 (b2i (m - nI p = 0))) o p m (n + 2) := VC.p (VC.t (l := [13]) (VC.s (b := 21) h))
  refine bX8_parts_26 (fun c => ?_) (fun c => ?_)
  · rw [xup_at, b2i_z] at c
    refine bX8_parts_38 (by rw [hV.1]; exact pX8_moves (n := n + 2) ho7 hV ho7 (by omega)) ?_
    rintro _ _ ⟨rfl, rfl⟩
    refine bX8_parts_48 ?_
    refine bX8_parts_49 ?_
    refine hQ _ _ ⟨?_, ?_⟩
    · unfold ptV
      rw [if_neg (c := 0 = 1 ∨ 0 = 4) (by decide), if_pos (c := 4 = 1 ∨ 4 = 4) (by decide), if_neg c]
    · rw [trC_c]
      congr 1
      unfold ptL
      rw [if_pos (c := 4 = 1 ∨ 4 = 4) (by decide), if_neg c]
      rfl
  · rw [xup_at, b2i_nz] at c
    refine bX8_parts_34 ?_
    refine bX8_parts_49 ?_
    refine hQ _ _ ⟨?_, ?_⟩
    · unfold ptV
      rw [if_pos (c := 4 = 1 ∨ 4 = 4) (by decide), if_pos c]
    · congr 1
      unfold ptL
      rw [if_pos (c := 4 = 1 ∨ 4 = 4) (by decide), if_pos c]
      rfl
theorem pX8_parts {d : Nat} {im : XI} {bo : Bool} {o p n : Nat} {m x0 : Int32} {k : Nat} (hk : k < 7) (h : VC im o p m n) (ho7 : o < 7) (hn : n + 8 ≤ 30) : SpI mX8_parts (d + 7) [.ref 33, .int (nI k), .int x0] (SC bo) im (fun x im' => x = ptV k o (nI p) m x0 ∧ im' = xup (trC im n (ptL k o (nI p) m)) 33 1 (b2i (m - nI p = 0))) := by
  match k, hk with
  | 0, _ => exact pX8_parts_k0 (d := d + 6) h ho7 (by omega)
  | 1, _ => exact pX8_parts_k1 (d := d + 0) h ho7 (by omega)
  | 2, _ => exact pX8_parts_k2 (d := d + 6) h ho7 (by omega)
  | 3, _ => exact pX8_parts_k3 (d := d + 6) h ho7 (by omega)
  | 4, _ => exact pX8_parts_k4 (d := d + 0) h ho7 (by omega)
  | 5, _ => exact pX8_parts_k5 (d := d + 6) h ho7 (by omega)
  | 6, _ => exact pX8_parts_k6 (d := d + 6) h ho7 (by omega)

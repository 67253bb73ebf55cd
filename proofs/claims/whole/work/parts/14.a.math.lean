-- ===== what a call leaves is a row again =====
def IvX (s : Nat → Int32) : Prop := ∃ np nd, Iv s np nd
theorem Iv_kind {s : Nat → Int32} {np nd p k : Nat} (hI : Iv s np nd) (hp : p < 6) (hk : k < 7) : Iv (upd s (8 + 4 * p) (nI k)) np nd := by
  refine ⟨⟨hI.1.1, by rw [upd_ne (by omega)]; exact hI.1.2.1, fun q hq => ?_⟩, IvD_c (upd_ne (by omega)) (fun d hd => ⟨upd_ne (by omega), upd_ne (by omega), upd_ne (by omega)⟩) hI.2.1, IvR_c (upd_ne (by omega)) (upd_ne (by omega)) (fun k hk hk2 => upd_ne (by omega)) hI.2.2⟩
  obtain ⟨h1, h2⟩ := hI.1.2.2 q hq
  rw [upd_ne (j := 10 + 4 * q) (by omega)]
  refine ⟨?_, h2⟩
  by_cases hqp : q = p
  · subst hqp; exact ⟨k, hk, upd_at⟩
  · rw [upd_ne (by omega)]; exact h1
theorem km_nat {km : Int32} (h : okKm km) : ∃ k : Nat, k < 7 ∧ km / 10 = nI k := by
  obtain ⟨j, hj, rfl⟩ := (in_c (x := km) (n := 69) rfl (by decide)).mp h
  exact ⟨j / 10, by omega, pk_div (d := 10) (by omega) (by omega) (by omega)⟩
theorem bt_nat {b f : Int32} (h : okBt b f) : ∃ k : Nat, 0 < k ∧ k ≤ 12 ∧ b = nI k := by
  obtain ⟨j, h1, h2, rfl⟩ := (in_ab (x := b) (a := 1) (n := 12) rfl rfl (by decide) (by decide)).mp h.1
  exact ⟨j, by omega, h2, rfl⟩
theorem Iv_newP {s : Nat → Int32} {np nd : Nat} {km b f : Int32} (hI : Iv s np nd) (hp : np < 6) (hk : okKm km) (hb : okBt b f) : Iv (newP s np km b f) (np + 1) nd := by
  obtain ⟨k, hk7, hke⟩ := km_nat hk
  obtain ⟨c, hc0, hc, hce⟩ := bt_nat hb
  have hnd := hI.2.1.1
  have so : ∀ j, j ≠ 4 → (j < 8 + 4 * np ∨ 11 + 4 * np < j) → newP s np km b f j = s j := by
    intro j h1 h2
    unfold newP
    rw [upd_ne h1, upd_ne (by omega), upd_ne (by omega), upd_ne (by omega), upd_ne (by omega)]
  refine ⟨⟨by omega, ?_, fun p hp' => ?_⟩, ⟨hnd, ?_, fun d hd => ?_⟩, IvR_c (so 2 (by omega) (by omega)) (so 3 (by omega) (by omega)) (fun j h1 h2 => so j (by omega) (by omega)) hI.2.2⟩
  · show upd _ 4 (s 4 + 1) 4 = _
    rw [upd_at, hI.1.2.1, nI_1]
  · by_cases e : p = np
    · subst e
      refine ⟨⟨k, hk7, ?_⟩, c, hc0, hc, ?_⟩
      · unfold newP
        rw [upd_ne (by omega), upd_ne (by omega), upd_ne (by omega), upd_ne (by omega), upd_at, hke]
      · unfold newP
        rw [upd_ne (by omega), upd_ne (by omega), upd_at, hce]
    · rw [so _ (by omega) (by omega), so _ (by omega) (by omega)]
      exact hI.1.2.2 p (by omega)
  · rw [so _ (by omega) (by omega)]; exact hI.2.1.2.1
  · obtain ⟨⟨w, hw, h1⟩, h2, h3⟩ := hI.2.1.2.2 d hd
    rw [so _ (by omega) (by omega), so _ (by omega) (by omega), so _ (by omega) (by omega)]
    exact ⟨⟨w, by omega, h1⟩, h2, h3⟩
theorem set_nat {s : Nat → Int32} {np nd : Nat} {w : Int32} (hI : Iv s np nd) (h : okSet s w) : ∃ m : Nat, m < 64 ∧ w = nI m := by
  have h : 0 ≤ w ∧ w ≤ (1 <<< (s 4 &&& 31)) - 1 := h
  rw [hI.1.2.1] at h
  have hnp := hI.1.1
  have e : ∃ M : Nat, M < 64 ∧ ((1 : Int32) <<< (nI np &&& 31)) - 1 = nI M := by
    match np, hnp with
    | 0, _ => exact ⟨0, by omega, rfl⟩
    | 1, _ => exact ⟨1, by omega, rfl⟩
    | 2, _ => exact ⟨3, by omega, rfl⟩
    | 3, _ => exact ⟨7, by omega, rfl⟩
    | 4, _ => exact ⟨15, by omega, rfl⟩
    | 5, _ => exact ⟨31, by omega, rfl⟩
    | 6, _ => exact ⟨63, by omega, rfl⟩
  obtain ⟨M, hM, hMe⟩ := e
  obtain ⟨m, hm, hme⟩ := (in_c hMe (by omega)).mp h
  exact ⟨m, by omega, hme⟩
theorem Iv_newD {s : Nat → Int32} {np nd : Nat} {v q w : Int32} (hI : Iv s np nd) (hd6 : nd < 6) (hv : okP s v) (hq : 0 ≤ q ∧ q ≤ 99) (hw : okSet s w) : Iv (newD s nd v q w) np (nd + 1) := by
  obtain ⟨p, hp, hpe⟩ := (in_n (n := np) (by have := hI.1.1; omega)).mp (show 0 ≤ v ∧ v ≤ nI np - 1 by rw [← hI.1.2.1]; exact hv)
  obtain ⟨a, ha, hae⟩ := (in_c (x := q) (n := 99) rfl (by decide)).mp hq
  obtain ⟨m, hm, hme⟩ := set_nat hI hw
  have hnp := hI.1.1
  have so : ∀ j, j ≠ 5 → (j < 32 + 3 * nd ∨ 34 + 3 * nd < j) → newD s nd v q w j = s j := by
    intro j h1 h2
    unfold newD
    rw [upd_ne h1, upd_ne (by omega), upd_ne (by omega), upd_ne (by omega)]
  refine ⟨IvP_c (so 4 (by omega) (by omega)) (fun p hp => ⟨so _ (by omega) (by omega), so _ (by omega) (by omega)⟩) hI.1, ⟨by omega, ?_, fun d hd => ?_⟩, IvR_c (so 2 (by omega) (by omega)) (so 3 (by omega) (by omega)) (fun j h1 h2 => so j (by omega) (by omega)) hI.2.2⟩
  · show upd _ 5 (s 5 + 1) 5 = _
    rw [upd_at, hI.2.1.2.1, nI_1]
  · by_cases e : d = nd
    · subst e
      refine ⟨⟨p, hp, ?_⟩, ⟨a, ha, ?_⟩, ⟨m, hm, ?_⟩⟩
      · unfold newD
        rw [upd_ne (by omega), upd_ne (by omega), upd_ne (by omega), upd_at, hpe]
      · unfold newD
        rw [upd_ne (by omega), upd_ne (by omega), upd_at, hae]
      · unfold newD
        rw [upd_ne (by omega), upd_at, hme]
    · rw [so _ (by omega) (by omega), so _ (by omega) (by omega), so _ (by omega) (by omega)]
      exact hI.2.1.2.2 d (by omega)
/-- a row that differs at 2, 3 and from 300 on -/
theorem Iv_rows {s s' : Nat → Int32} {np nd : Nat} (hI : Iv s np nd) (hs : ∀ k, k ≠ 2 → k ≠ 3 → k < 300 → s' k = s k) (h2 : ∃ n : Nat, n ≤ 60 ∧ s' 2 = nI n) (h3 : ∃ n : Nat, n ≤ 24 ∧ s' 3 = nI n) : Iv s' np nd := by
  refine ⟨IvP_c (hs 4 (by omega) (by omega) (by omega)) (fun p hp => ⟨hs _ (by omega) (by omega) (by omega), hs _ (by omega) (by omega) (by omega)⟩) hI.1, IvD_c (hs 5 (by omega) (by omega) (by omega)) (fun d hd => ⟨hs _ (by omega) (by omega) (by omega), hs _ (by omega) (by omega) (by omega), hs _ (by omega) (by omega) (by omega)⟩) hI.2.1, h2, h3, ?_, ?_⟩
  · exact textOk_c (by omega) (fun k h1 h2 => hs k (by omega) (by omega) h2) hI.2.2.2.2.1
  · exact textOk_c (by omega) (fun k h1 h2 => hs k (by omega) (by omega) h2) hI.2.2.2.2.2
theorem textOk_e {s s' : Nat → Int32} {u : Nat} (h : ∀ k, 50 + 125 * u ≤ k → k < 175 + 125 * u → s' k = s k) (ht : textOk s u) : textOk s' u := by
  obtain ⟨c, hc, hce, h1, h2⟩ := ht
  have wle : ∀ k, k ≤ c → wl s' (50 + 125 * u) k = wl s (50 + 125 * u) k := by
    intro k
    induction k with
    | zero => intro _; rfl
    | succ k ih =>
      intro hk
      unfold wl
      rw [ih (by omega), h _ (by omega) (by omega)]
  refine ⟨c, hc, by rw [h _ (by omega) (by omega)]; exact hce, fun k hk => ?_, fun hc0 => by rw [wle c (Nat.le_refl c)]; exact h2 hc0⟩
  rw [wle k (by omega), h _ (by omega) (by omega), h _ (by omega) (by omega)]
  exact h1 k hk
theorem textOk_new {s : Nat → Int32} {u : Nat} {l : List PStp} (hl : l.length ≤ 60) (h : okL u l 0 1) : textOk (textS s u l) u := by
  obtain ⟨B, hB⟩ : ∃ B, B = 50 + 125 * u := ⟨_, rfl⟩
  have e0 : textS s u l (50 + 125 * u) = nI l.length := if_pos rfl
  have e1 : ∀ k, k < l.length → textS s u l (50 + 125 * u + 1 + 2 * k) = (l.getD k (0, 0)).1 := by
    intro k hk
    unfold textS
    rw [if_neg (by omega), if_pos (by omega), show 50 + 125 * u + 1 + 2 * k - (51 + 125 * u) = 2 * k by omega]
    unfold clS
    rw [if_pos (by omega), show 2 * k / 2 = k by omega]
  have e2 : ∀ k, k < l.length → textS s u l (50 + 125 * u + 2 + 2 * k) = (l.getD k (0, 0)).2 := by
    intro k hk
    unfold textS
    rw [if_neg (by omega), if_pos (by omega), show 50 + 125 * u + 2 + 2 * k - (51 + 125 * u) = 2 * k + 1 by omega]
    unfold clS
    rw [if_neg (by omega), show (2 * k + 1) / 2 = k by omega]
  have key : ∀ k, k ≤ l.length → okL u (l.drop k) (wl (textS s u l) (50 + 125 * u) k) 1 := by
    intro k
    induction k with
    | zero => intro _; exact h
    | succ k ih =>
      intro hk
      have hd := ih (by omega)
      have hdr : l.drop k = l.getD k (0, 0) :: l.drop (k + 1) := by
        rw [List.drop_eq_getElem_cons (by omega), List.getD_eq_getElem?_getD, List.getElem?_eq_getElem (by omega)]
        rfl
      rw [hdr] at hd
      have hw : wl (textS s u l) (50 + 125 * u) (k + 1) = nxD (l.getD k (0, 0)).1 (wl (textS s u l) (50 + 125 * u) k) := by
        have : wl (textS s u l) (50 + 125 * u) (k + 1) = if textS s u l (50 + 125 * u + 1 + 2 * k) = 0 ∨ textS s u l (50 + 125 * u + 1 + 2 * k) = 1 then wl (textS s u l) (50 + 125 * u) k + 1 else if textS s u l (50 + 125 * u + 1 + 2 * k) = 2 then wl (textS s u l) (50 + 125 * u) k else wl (textS s u l) (50 + 125 * u) k - 1 := rfl
        rw [this, e1 k (by omega)]
        rfl
      rw [hw]
      exact hd.2
  refine ⟨l.length, hl, e0, fun k hk => ?_, fun _ => ?_⟩
  · have hd := key k (by omega)
    have hdr : l.drop k = l.getD k (0, 0) :: l.drop (k + 1) := by
      rw [List.drop_eq_getElem_cons (by omega), List.getD_eq_getElem?_getD, List.getElem?_eq_getElem (by omega)]
      rfl
    rw [hdr] at hd
    rw [e1 k hk, e2 k hk]
    exact hd.1
  · have hd := key l.length (Nat.le_refl _)
    rw [List.drop_length] at hd
    exact hd
theorem Iv_text {s : Nat → Int32} {np nd u : Nat} {l : List PStp} (hI : Iv s np nd) (hu : u < 2) (hl : l.length ≤ 60) (h : okL u l 0 1) : Iv (textS s u l) np nd := by
  have to : ∀ k, k ≠ 2 → (k < 50 + 125 * u ∨ 175 + 125 * u ≤ k) → textS s u l k = s k := by
    intro k h1 h2
    unfold textS
    rw [if_neg (by omega), if_neg (by omega), if_neg h1]
  have t2 : textS s u l 2 = 0 := by
    unfold textS
    rw [if_neg (by omega), if_neg (by omega), if_pos rfl]
  refine ⟨IvP_c (to 4 (by omega) (by omega)) (fun p hp => ⟨to _ (by omega) (by omega), to _ (by omega) (by omega)⟩) hI.1, IvD_c (to 5 (by omega) (by omega)) (fun d hd => ⟨to _ (by omega) (by omega), to _ (by omega) (by omega), to _ (by omega) (by omega)⟩) hI.2.1, ⟨0, by omega, t2⟩, by rw [to 3 (by omega) (by omega)]; exact hI.2.2.2.1, ?_, ?_⟩
  · match u, hu with
    | 0, _ => exact textOk_new hl h
    | 1, _ => exact textOk_e (fun k h1 h2 => to k (by omega) (by omega)) hI.2.2.2.2.1
  · match u, hu with
    | 0, _ => exact textOk_e (fun k h1 h2 => to k (by omega) (by omega)) hI.2.2.2.2.2
    | 1, _ => exact textOk_new hl h
theorem Iv_untell {s : Nat → Int32} {np nd u : Nat} (hI : Iv s np nd) (hu : u < 2) : Iv (upd s (50 + 125 * u) 0) np nd := by
  have tn : textOk (upd s (50 + 125 * u) 0) u := ⟨0, by omega, upd_at, fun k hk => absurd hk (Nat.not_lt_zero k), fun h => absurd h (Nat.lt_irrefl 0)⟩
  refine ⟨IvP_c (upd_ne (by omega)) (fun p hp => ⟨upd_ne (by omega), upd_ne (by omega)⟩) hI.1, IvD_c (upd_ne (by omega)) (fun d hd => ⟨upd_ne (by omega), upd_ne (by omega), upd_ne (by omega)⟩) hI.2.1, by rw [upd_ne (by omega)]; exact hI.2.2.1, by rw [upd_ne (by omega)]; exact hI.2.2.2.1, ?_, ?_⟩
  · match u, hu with
    | 0, _ => exact tn
    | 1, _ => exact textOk_e (fun k h1 h2 => upd_ne (by omega)) hI.2.2.2.2.1
  · match u, hu with
    | 0, _ => exact textOk_e (fun k h1 h2 => upd_ne (by omega)) hI.2.2.2.2.2
    | 1, _ => exact tn
theorem Iv_paR {np nd m : Nat} {nu : Nat → Int32} : ∀ (f n : Nat) (s : Nat → Int32), Iv s np nd → Iv (paR m nu f n s).2 np nd := by
  intro f
  induction f with
  | zero => intro n s hI; exact hI
  | succ f ih =>
    intro n s hI
    unfold paR
    by_cases c : paOk s m nu n
    · rw [if_pos c]
      obtain ⟨c1, c2, c3⟩ := c
      have hnd := hI.2.1.1
      rw [nnd hI] at c2
      obtain ⟨q, hq, hqe⟩ := (in_c (n := 99) rfl (by decide)).mp c3
      refine ih (n + 1) _ ?_
      rw [hqe]
      exact Iv_parts hI (by omega) hq
    · rw [if_neg c]; exact hI

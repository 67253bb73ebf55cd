-- ===== worlds that grow =====
def rfT : List (Nat × Nat × Nat) → Nat → Nat → Option Nat
  | [], _, _ => none
  | e :: l, a, j => if a = e.1 ∧ j = e.2.1 then some e.2.2 else rfT l a j
def wW (ks : List XK) (R0 : Nat → Nat → Option Nat) (K : List XK) (l : List (Nat × Nat × Nat)) : XS := (ks ++ K, fun a j => if ks.length ≤ a then (rfT l (a - ks.length) j).map (fun v => ks.length + v) else R0 a j)
def wI (b : Nat) (I0 : XI) (n : Nat) (f : XI) : XI := fun a j => if b ≤ a ∧ a < b + n then f (a - b) j else I0 a j
theorem wW_len {ks : List XK} {R0 : Nat → Nat → Option Nat} {K : List XK} {l : List (Nat × Nat × Nat)} {n : Nat} (hn : K.length = n) : (wW ks R0 K l).1.length = ks.length + n := by
  subst hn
  exact List.length_append
theorem wW_push {ks : List XK} {R0 : Nat → Nat → Option Nat} {K K' : List XK} {l : List (Nat × Nat × Nat)} {k : XK} {n : Nat} (hK : K' = K ++ [k]) (hn : K.length = n) (hl : ∀ j, rfT l n j = none) : xpush (wW ks R0 K l) k = wW ks R0 K' l := by
  subst hK; subst hn
  unfold xpush wW
  refine Prod.ext (List.append_assoc ks K [k]) ?_
  funext a j
  show (if a = (ks ++ K).length then none else _) = _
  rw [List.length_append]
  by_cases h : a = ks.length + K.length
  · subst h
    rw [if_pos rfl]
    show none = if ks.length ≤ ks.length + K.length then _ else _
    rw [if_pos (by omega), show ks.length + K.length - ks.length = K.length by omega, hl]
    rfl
  · rw [if_neg h]
theorem wW_ref {ks : List XK} {R0 : Nat → Nat → Option Nat} {K : List XK} {l : List (Nat × Nat × Nat)} {a k v : Nat} : ((wW ks R0 K l).1, xur (wW ks R0 K l).2 (ks.length + a) k (some (ks.length + v))) = wW ks R0 K ((a, k, v) :: l) := by
  refine Prod.ext rfl ?_
  funext a' j
  show (if a' = ks.length + a ∧ j = k then some (ks.length + v) else if ks.length ≤ a' then _ else _) = if ks.length ≤ a' then ((if a' - ks.length = a ∧ j = k then some v else rfT l (a' - ks.length) j).map _) else _
  by_cases h : ks.length ≤ a'
  · rw [if_pos h, if_pos h]
    by_cases h2 : a' = ks.length + a ∧ j = k
    · rw [if_pos h2, if_pos ⟨by omega, h2.2⟩]
      rfl
    · rw [if_neg h2, if_neg (fun g => h2 ⟨by omega, g.2⟩)]
  · rw [if_neg h, if_neg h, if_neg (by omega)]
theorem wW_pr {ks : List XK} {R0 : Nat → Nat → Option Nat} {K K' : List XK} {l : List (Nat × Nat × Nat)} {k : XK} {a j n : Nat} (hK : K' = K ++ [k]) (hn : K.length = n) (hl : ∀ j, rfT l n j = none) : ((xpush (wW ks R0 K l) k).1, xur (xpush (wW ks R0 K l) k).2 (ks.length + a) j (some (wW ks R0 K l).1.length)) = wW ks R0 K' ((a, j, n) :: l) := by
  rw [wW_push hK hn hl, wW_len hn, wW_ref]
theorem wW_get {ks : List XK} {R0 : Nat → Nat → Option Nat} {K : List XK} {l : List (Nat × Nat × Nat)} {a : Nat} {k : XK} (h : K[a]? = some k) : (wW ks R0 K l).1[ks.length + a]? = some k := by
  show (ks ++ K)[ks.length + a]? = _
  rw [List.getElem?_append_right (by omega), show ks.length + a - ks.length = a by omega]
  exact h
theorem wW_val {ks : List XK} {R0 : Nat → Nat → Option Nat} {K : List XK} {l : List (Nat × Nat × Nat)} {a j v : Nat} (h : rfT l a j = some v) : (wW ks R0 K l).2 (ks.length + a) j = some (ks.length + v) := by
  show (if ks.length ≤ ks.length + a then _ else _) = _
  rw [if_pos (by omega), show ks.length + a - ks.length = a by omega, h]
  rfl
theorem wI_z {b n : Nat} {I0 f : XI} (h : ∀ j, f n j = 0) : xz (wI b I0 n f) (b + n) = wI b I0 (n + 1) f := by
  funext a j
  unfold xz wI
  by_cases c : a = b + n
  · rw [if_pos c, if_pos (by omega), show a - b = n by omega, h]
  · rw [if_neg c]
    by_cases c2 : b ≤ a ∧ a < b + n
    · rw [if_pos c2, if_pos (by omega)]
    · rw [if_neg c2, if_neg (by omega)]
theorem wI_u {b n a k : Nat} {v : Int32} {I0 f : XI} (h : a < n) : xup (wI b I0 n f) (b + a) k v = wI b I0 n (xup f a k v) := by
  funext a' j
  simp only [xup, wI]
  by_cases c : a' = b + a ∧ j = k
  · rw [if_pos c, if_pos (by omega), if_pos ⟨by omega, c.2⟩]
  · rw [if_neg c]
    by_cases c2 : b ≤ a' ∧ a' < b + n
    · rw [if_pos c2, if_pos c2, if_neg (fun g => c ⟨by omega, g.2⟩)]
    · rw [if_neg c2, if_neg c2]

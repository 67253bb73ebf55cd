-- ===== the worlds of the reference and of the class, as they stand behind their constructors =====
def xi (n : Nat) : XK := .inr (.inl n)
def SMl : List XK := [.inl 10, xi 384, xi 384, xi 50, xi 7, xi 124, xi 128, xi 64, xi 30, xi 4, xi 4, xi 96, xi 24]
def SMr : Nat → Nat → Option Nat := fun a j => match a with
  | 0 => match j with
    | 0 => some 1 | 1 => some 2 | 2 => some 3 | 4 => some 4 | 9 => some 5 | 10 => some 6 | 11 => some 7 | 13 => some 8 | 16 => some 9 | 17 => some 10 | 18 => some 11 | 19 => some 12 | _ => none
  | _ => none
def SM : XS := (SMl, SMr)
def islK : List XK := [.inl 2, .inr (.inr (0, 6)), .inr (.inr (1, 6)), .inl 3, .inl 6, xi 60, xi 60, .inl 3, .inl 6, xi 60, xi 60, .inl 6, xi 60, .inl 6, xi 24, .inl 4, .inl 4, .inl 4, .inl 4, .inl 4, .inl 4, .inl 0, .inl 0, .inl 0, .inl 0, .inl 0, .inl 0]
def islR (b : Nat) : Nat → Nat → Option Nat := fun a j => match a with
  | 0 => match j with
    | 0 => some (b + 1) | 1 => some (b + 2) | 2 => some (b + 3) | 3 => some (b + 7) | 4 => some (b + 11) | 5 => some (b + 13) | _ => none
  | 1 => if j < 6 then some (b + 15 + j) else none
  | 2 => if j < 6 then some (b + 21 + j) else none
  | 3 => match j with
    | 1 => some (b + 4) | 2 => some (b + 6) | _ => none
  | 4 => match j with
    | 0 => some (b + 5) | _ => none
  | 7 => match j with
    | 1 => some (b + 8) | 2 => some (b + 10) | _ => none
  | 8 => match j with
    | 0 => some (b + 9) | _ => none
  | 11 => match j with
    | 0 => some (b + 12) | _ => none
  | 13 => match j with
    | 0 => some (b + 14) | _ => none
  | _ => none
def SCl (bo : Bool) : List XK := [.inl 9] ++ islK ++ [.inl 5, .inl 6, xi 60, .inl 1, xi 99, .inl 8, .inl 6, xi 30, .inr (.inr (2, 4)), xi 7, .inl 7, .inl 6, xi 24, .inl 7, .inl 6, xi 24, .inl 7, .inl 6, xi 24, .inl 7, .inl 6, xi 24] ++ (match bo with
  | true => islK
  | false => [])
def SCr (bo : Bool) : Nat → Nat → Option Nat := fun a j => match a with
  | 0 => match j with
    | 0 => some 1 | 1 => some 28 | 2 => some 31 | 3 => some 33 | 4 => some 36 | 5 => some 37
    | 6 => (match bo with
      | true => some 50
      | false => none)
    | _ => none
  | 28 => match j with
    | 0 => some 12 | 1 => some 29 | _ => none
  | 29 => match j with
    | 0 => some 30 | _ => none
  | 31 => match j with
    | 0 => some 1 | 1 => some 32 | _ => none
  | 33 => match j with
    | 0 => some 34 | _ => none
  | 34 => match j with
    | 0 => some 35 | _ => none
  | 36 => if j < 4 then some (38 + 3 * j) else none
  | 38 => match j with
    | 0 => some 39 | _ => none
  | 39 => match j with
    | 0 => some 40 | _ => none
  | 41 => match j with
    | 0 => some 42 | _ => none
  | 42 => match j with
    | 0 => some 43 | _ => none
  | 44 => match j with
    | 0 => some 45 | _ => none
  | 45 => match j with
    | 0 => some 46 | _ => none
  | 47 => match j with
    | 0 => some 48 | _ => none
  | 48 => match j with
    | 0 => some 49 | _ => none
  | a => if a < 28 then islR 1 (a - 1) j else if 50 ≤ a then (match bo with
    | true => islR 50 (a - 50) j
    | false => none) else none
def SC (bo : Bool) : XS := (SCl bo, SCr bo)
theorem xpeople {bo : Bool} {i : Nat} (h : i < 6) : (SC bo).2 2 i = some (16 + i) := by
  show (if i < 6 then some (1 + 15 + i) else none) = _
  rw [if_pos h]
theorem xdoings {bo : Bool} {i : Nat} (h : i < 6) : (SC bo).2 3 i = some (22 + i) := by
  show (if i < 6 then some (1 + 21 + i) else none) = _
  rw [if_pos h]
theorem xperson {bo : Bool} {i : Nat} (h : i < 6) : (SC bo).1[16 + i]? = some (.inl 4) := by
  match i, h with
  | 0, _ => rfl
  | 1, _ => rfl
  | 2, _ => rfl
  | 3, _ => rfl
  | 4, _ => rfl
  | 5, _ => rfl
theorem xdoing {bo : Bool} {i : Nat} (h : i < 6) : (SC bo).1[22 + i]? = some (.inl 0) := by
  match i, h with
  | 0, _ => rfl
  | 1, _ => rfl
  | 2, _ => rfl
  | 3, _ => rfl
  | 4, _ => rfl
  | 5, _ => rfl
theorem xsheets {bo : Bool} {i : Nat} (h : i < 4) : (SC bo).2 36 i = some (38 + 3 * i) := by
  show (if i < 4 then some (38 + 3 * i) else none) = _
  rw [if_pos h]
theorem xsheet {bo : Bool} {i : Nat} (h : i < 4) : (SC bo).1[38 + 3 * i]? = some (.inl 7) := by
  match i, h with
  | 0, _ => rfl
  | 1, _ => rfl
  | 2, _ => rfl
  | 3, _ => rfl
theorem xsheetR {bo : Bool} {i : Nat} (h : i < 4) : (SC bo).2 (38 + 3 * i) 0 = some (39 + 3 * i) := by
  match i, h with
  | 0, _ => rfl
  | 1, _ => rfl
  | 2, _ => rfl
  | 3, _ => rfl
theorem xsheetRow {bo : Bool} {i : Nat} (h : i < 4) : (SC bo).1[39 + 3 * i]? = some (.inl 6) := by
  match i, h with
  | 0, _ => rfl
  | 1, _ => rfl
  | 2, _ => rfl
  | 3, _ => rfl
theorem xsheetRowR {bo : Bool} {i : Nat} (h : i < 4) : (SC bo).2 (39 + 3 * i) 0 = some (40 + 3 * i) := by
  match i, h with
  | 0, _ => rfl
  | 1, _ => rfl
  | 2, _ => rfl
  | 3, _ => rfl
theorem xsheetA {bo : Bool} {i : Nat} (h : i < 4) : XA (SC bo) (40 + 3 * i) 24 := by
  refine ⟨?_, rfl⟩
  match i, h with
  | 0, _ => rfl
  | 1, _ => rfl
  | 2, _ => rfl
  | 3, _ => rfl

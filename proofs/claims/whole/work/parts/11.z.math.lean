theorem xisl {o : Nat} (h : o = 0 ∨ o = 49) : (SC true).1[1 + o]? = some (.inl 2) ∧ (SC true).2 (1 + o) 0 = some (2 + o) ∧ (SC true).2 (1 + o) 1 = some (3 + o) ∧ (SC true).2 (1 + o) 2 = some (4 + o) ∧ (SC true).2 (1 + o) 3 = some (8 + o) ∧ (SC true).2 (1 + o) 4 = some (12 + o) ∧ (SC true).2 (1 + o) 5 = some (14 + o) ∧ XG (SC true) (2 + o) 0 6 ∧ XG (SC true) (3 + o) 1 6 := by
  rcases h with rfl | rfl <;> exact ⟨rfl, rfl, rfl, rfl, rfl, rfl, rfl, ⟨rfl, rfl, rfl⟩, ⟨rfl, rfl, rfl⟩⟩
theorem xislP {o i : Nat} (h : o = 0 ∨ o = 49) (hi : i < 6) : (SC true).2 (2 + o) i = some (16 + i + o) ∧ (SC true).2 (3 + o) i = some (22 + i + o) ∧ (SC true).1[16 + i + o]? = some (.inl 4) ∧ (SC true).1[22 + i + o]? = some (.inl 0) := by
  rcases h with rfl | rfl
  · match i, hi with
    | 0, _ => exact ⟨rfl, rfl, rfl, rfl⟩
    | 1, _ => exact ⟨rfl, rfl, rfl, rfl⟩
    | 2, _ => exact ⟨rfl, rfl, rfl, rfl⟩
    | 3, _ => exact ⟨rfl, rfl, rfl, rfl⟩
    | 4, _ => exact ⟨rfl, rfl, rfl, rfl⟩
    | 5, _ => exact ⟨rfl, rfl, rfl, rfl⟩
  · match i, hi with
    | 0, _ => exact ⟨rfl, rfl, rfl, rfl⟩
    | 1, _ => exact ⟨rfl, rfl, rfl, rfl⟩
    | 2, _ => exact ⟨rfl, rfl, rfl, rfl⟩
    | 3, _ => exact ⟨rfl, rfl, rfl, rfl⟩
    | 4, _ => exact ⟨rfl, rfl, rfl, rfl⟩
    | 5, _ => exact ⟨rfl, rfl, rfl, rfl⟩
theorem xislL {o u : Nat} (h : o = 0 ∨ o = 49) (hu : u < 2) : (SC true).1[4 + 4 * u + o]? = some (.inl 3) ∧ (SC true).2 (4 + 4 * u + o) 1 = some (5 + 4 * u + o) ∧ (SC true).1[5 + 4 * u + o]? = some (.inl 6) ∧ (SC true).2 (5 + 4 * u + o) 0 = some (6 + 4 * u + o) ∧ XA (SC true) (6 + 4 * u + o) 60 := by
  rcases h with rfl | rfl
  · match u, hu with
    | 0, _ => exact ⟨rfl, rfl, rfl, rfl, ⟨rfl, rfl⟩⟩
    | 1, _ => exact ⟨rfl, rfl, rfl, rfl, ⟨rfl, rfl⟩⟩
  · match u, hu with
    | 0, _ => exact ⟨rfl, rfl, rfl, rfl, ⟨rfl, rfl⟩⟩
    | 1, _ => exact ⟨rfl, rfl, rfl, rfl, ⟨rfl, rfl⟩⟩
theorem xislR {o : Nat} (h : o = 0 ∨ o = 49) : (SC true).1[12 + o]? = some (.inl 6) ∧ (SC true).2 (12 + o) 0 = some (13 + o) ∧ XA (SC true) (13 + o) 60 ∧ (SC true).1[14 + o]? = some (.inl 6) ∧ (SC true).2 (14 + o) 0 = some (15 + o) ∧ XA (SC true) (15 + o) 24 := by
  rcases h with rfl | rfl <;> exact ⟨rfl, rfl, ⟨rfl, rfl⟩, rfl, rfl, ⟨rfl, rfl⟩⟩
theorem b2i_or (p : Prop) [Decidable p] : b2i p = 0 ∨ b2i p = 1 := b2i_01 p

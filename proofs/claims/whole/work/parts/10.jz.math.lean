theorem mkL.rf {im : XI} : mkL im im := fun _ _ _ => rfl

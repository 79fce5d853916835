/-! THE RELATION HOLDS AT THE START -/
theorem inv_start {cn : ab_C} (h2 : cn 2 = 0) (h3 : cn 3 = 0) (h5 : cn 5 = 1) (h6 : cn 6 = 0) (h7 : cn 7 = 0) (h11 : cn 11 = 0) (hl : ∀ k, k < 4 → cn (17 + k) = 0) : Inv hiM hrF cn := by
  have z : ∀ K i j, K ≠ 5 → K ≠ 34 → hiM K i j = nI 0 := fun K i j a b => hiM_k a b
  have zz : ∀ K i j K' i' j', K ≠ 5 → K ≠ 34 → K' ≠ 5 → K' ≠ 34 → hiM K i j = hiM K' i' j' := fun K i j K' i' j' a b c d => (z K i j a b).trans (z K' i' j' c d).symm
  refine ⟨0, 0, 0, 0, 0, ⟨hrF_c, hrF_m⟩, ⟨h2, h3, h5, h6, h7, h11⟩, ⟨?_, ?_, ?_, ?_⟩, ?_, ⟨?_, ?_⟩, ⟨zz _ _ _ _ _ _ (by omega) (by omega) (by omega) (by omega), 0, by omega, z _ _ _ (by omega) (by omega)⟩, ?_, ?_, ?_, ?_, ?_, ?_, ?_, ?_, ?_, ?_, ?_, ?_⟩
  · exact ⟨z _ _ _ (by omega) (by omega), Or.inl ⟨rfl, rfl, hl 0 (by omega)⟩⟩
  · exact ⟨z _ _ _ (by omega) (by omega), Or.inl ⟨rfl, rfl, hl 1 (by omega)⟩⟩
  · exact ⟨z _ _ _ (by omega) (by omega), Or.inl ⟨rfl, rfl, hl 2 (by omega)⟩⟩
  · exact ⟨z _ _ _ (by omega) (by omega), Or.inl ⟨rfl, rfl, hl 3 (by omega)⟩⟩
  · exact ⟨⟨z _ _ _ (by omega) (by omega), by omega⟩, ⟨z _ _ _ (by omega) (by omega), by omega⟩, ⟨z _ _ _ (by omega) (by omega), by omega⟩, ⟨z _ _ _ (by omega) (by omega), by omega⟩, ⟨z _ _ _ (by omega) (by omega), by omega⟩, fun k q => absurd q (Nat.not_lt_zero _), fun k q => absurd q (Nat.not_lt_zero _), fun k q => absurd q (Nat.not_lt_zero _), fun k q => absurd q (Nat.not_lt_zero _), fun k q => absurd q (Nat.not_lt_zero _), fun k q => absurd q (Nat.not_lt_zero _)⟩
  · exact fun k k' q => absurd q (Nat.not_lt_zero _)
  · exact fun a b _ _ => ⟨0, by omega, z _ _ _ (by omega) (by omega)⟩
  · exact ⟨zz _ _ _ _ _ _ (by omega) (by omega) (by omega) (by omega), zz _ _ _ _ _ _ (by omega) (by omega) (by omega) (by omega), zz _ _ _ _ _ _ (by omega) (by omega) (by omega) (by omega), zz _ _ _ _ _ _ (by omega) (by omega) (by omega) (by omega), fun a _ => zz _ _ _ _ _ _ (by omega) (by omega) (by omega) (by omega)⟩
  · exact fun a b _ _ => zz _ _ _ _ _ _ (by omega) (by omega) (by omega) (by omega)
  · refine ⟨by decide, fun j a b => ?_, ⟨by decide, by decide⟩, fun k q => absurd q (Nat.not_lt_zero _)⟩
    rcases (show j = 1 ∨ j = 2 ∨ j = 3 ∨ j = 4 ∨ j = 5 ∨ j = 6 by omega) with rfl | rfl | rfl | rfl | rfl | rfl <;> decide
  · exact ⟨fun k q => absurd q (Nat.not_lt_zero _), fun g _ _ => ⟨z _ _ _ (by omega) (by omega), z _ _ _ (by omega) (by omega)⟩⟩
  · exact fun k q => absurd q (Nat.not_lt_zero _)
  · exact ⟨fun k q => absurd q (Nat.not_lt_zero _), fun g _ _ => ⟨z _ _ _ (by omega) (by omega), z _ _ _ (by omega) (by omega), z _ _ _ (by omega) (by omega), z _ _ _ (by omega) (by omega)⟩⟩
  · exact fun k q => absurd q (Nat.not_lt_zero _)
  · exact ⟨fun k g q => absurd q (Nat.not_lt_zero _), fun w g _ _ _ => z _ _ _ (by omega) (by omega)⟩
  · exact ⟨fun k q => absurd q (Nat.not_lt_zero _), fun g _ _ => ⟨z _ _ _ (by omega) (by omega), z _ _ _ (by omega) (by omega)⟩⟩
  · exact fun k q => absurd q (Nat.not_lt_zero _)
  · exact ⟨fun k q => absurd q (Nat.not_lt_zero _), fun k q => absurd q (Nat.not_lt_zero _), fun w _ _ => z _ _ _ (by omega) (by omega)⟩
  · refine ⟨id, fun p hp => ⟨hp, ?_⟩, fun p q _ _ e => e⟩
    rcases (show p = 0 ∨ p = 1 ∨ p = 2 ∨ p = 3 by omega) with rfl | rfl | rfl | rfl <;> rfl

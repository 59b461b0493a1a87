/-! The start. -/
theorem rel0 : Rel 0 false S00 := by
  have z : ∀ a k, ¬ (a = 187 ∧ k = 3) → S00.1 a k = nI 0 := fun a k h => by
    show (if a = 187 ∧ k = 3 then (-1 : Int32) else 0) = nI 0
    rw [if_neg h]
    rfl
  have zr : ∀ a, a ≠ 187 → okRow (S00.1 a) := fun a ha => by
    refine ⟨fun h _ => ⟨0, 0, 0, by omega, by omega, by omega, z _ _ (by omega), z _ _ (by omega), z _ _ (by omega)⟩, 0, 0, by omega, by omega, z _ _ (by omega), z _ _ (by omega)⟩
  have fm : ∀ f, rForm 3 f S00 := fun f => Or.inl ⟨by rw [z _ _ (by omega)]; rfl, by rw [z _ _ (by omega)]; rfl⟩
  refine ⟨0, ⟨by omega, z _ _ (by omega), z _ _ (by omega), fun h hh => absurd hh (Nat.not_lt_zero _)⟩, ⟨0, by omega, z _ _ (by omega), z _ _ (by omega), fun k hk => absurd hk (Nat.not_lt_zero _)⟩, ⟨0, by omega, z _ _ (by omega), z _ _ (by omega), rfl⟩, ⟨fm 0, fm 1, fm 2⟩, ⟨0, 0, 0, by omega, by omega, by omega, z 9 3 (by omega), z 12 3 (by omega), z 15 3 (by omega), z 187 24 (by omega)⟩, ⟨zr 35 (by omega), fun k _ => by rw [z _ _ (by omega), z _ _ (by omega)]⟩, ⟨0, 0, 0, by omega, by omega, z _ _ (by omega), z _ _ (by omega), z _ _ (by omega), z _ _ (by omega), z _ _ (by omega), fun j _ => zr _ (by omega), fun k _ => by rw [z _ _ (by omega), z _ _ (by omega)], fun j hj => absurd hj (Nat.not_lt_zero _), fun j _ hj => by omega⟩, fun x hx => Or.inl ⟨by rw [z _ _ (by omega)]; rfl, by rw [z _ _ (by omega)]; rfl⟩, ⟨0, by omega, z _ _ (by omega), z _ _ (by omega), fun j hj => absurd hj (Nat.not_lt_zero _)⟩, ⟨0, by omega, z _ _ (by omega), z _ _ (by omega)⟩, ⟨0, by omega, z _ _ (by omega), z _ _ (by omega), fun i hi => absurd hi (Nat.not_lt_zero _)⟩, ?_, ?_⟩
  · exact ⟨Or.inl (by rw [z _ _ (by omega)]; rfl), ⟨0, by omega, z _ _ (by omega), fun i _ => ⟨0, by omega, z _ _ (by omega)⟩⟩, z _ _ (by omega), fun q => by rw [z _ _ (by omega)] at q; exact absurd q (by decide)⟩
  · exact ⟨Or.inl (by rw [z _ _ (by omega)]; rfl), z _ _ (by omega), fun q => by rw [z _ _ (by omega)] at q; exact absurd q (by decide)⟩

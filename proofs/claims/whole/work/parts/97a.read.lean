/-! PROVINCE: readAll by both. -/
section
variable {T : Nat → Nat} {t : Nat}
theorem c_clear {u : Nat} (hu : kSh u) (C : mT) : ∃ C', fX8_clear u C = some C' ∧ fKl u C C' ∧ (∀ j, C'.1 1 j = C.1 1 j) ∧ C'.1 u 9 = nI 0 ∧ C'.1 u 10 = nI 0 ∧ C'.1 u 11 = 0 ∧ (∀ f, f < 3 → C'.1 (u + 6 + 3 * f) 2 = nI 0 ∧ C'.1 (u + 6 + 3 * f) 3 = nI 0 ∧ C'.1 (u + 6 + 3 * f) 4 = 0) := by
  have hu7 := hu.2.2.2.2.2.2
  obtain ⟨ku0, ku1, ku2⟩ := kLw_u hu
  have fit0 : mFit .boolean (0 : Int32) = true := by decide
  have o0 := ku0.1
  have o1 := ku1.1
  have o2 := ku2.1
  have cl : ∀ (a0 : Nat), kO a0 0 = true → ∀ S, fX0_clear a0 S = some (sI (sI (sI S a0 2 (0 : Int32)) a0 3 (0 : Int32)) a0 4 (0 : Int32)) := fun a0 h S => by
    simp only [fX0_clear, h, fit0, g_t, b_d, b_c, b_v, Bool.and_true, Bool.and_self, Bool.true_and]
  have run : fX8_clear u C = some (sI (sI (sI (sI (sI (sI (sI (sI (sI (sI (sI (sI C u 9 0) u 10 0) u 11 0) (u + 6) 2 0) (u + 6) 3 0) (u + 6) 4 0) (u + 9) 2 0) (u + 9) 3 0) (u + 9) 4 0) (u + 12) 2 0) (u + 12) 3 0) (u + 12) 4 0) := by
    simp only [fX8_clear, hu.1, fit0, g_t, b_d, b_c, b_v, Bool.and_true, Bool.and_self, Bool.true_and, cl _ o0, cl _ o1, cl _ o2]
  refine ⟨_, run, ⟨fun a j g1 g2 => ?_, fun a j g1 g2 => ?_, ?_⟩, fun j => ?_, ?_, ?_, ?_, fun f hf => ⟨?_, ?_, ?_⟩⟩
  · simp (disch := omega) only [sI_ne]
  · simp only [sI_2]
  · simp (disch := omega) only [sI_ne]
  · simp (disch := omega) only [sI_ne]
  · simp (disch := omega) only [sI_ne, sI_eq]; rfl
  · simp (disch := omega) only [sI_ne, sI_eq]; rfl
  · simp (disch := omega) only [sI_ne, sI_eq]
  · obtain rfl | rfl | rfl : f = 0 ∨ f = 1 ∨ f = 2 := by omega
    · simp (disch := omega) only [sI_ne, sI_eq]; rfl
    · simp (disch := omega) only [sI_ne, sI_eq]; rfl
    · simp (disch := omega) only [sI_ne, sI_eq]; rfl
  · obtain rfl | rfl | rfl : f = 0 ∨ f = 1 ∨ f = 2 := by omega
    · simp (disch := omega) only [sI_ne, sI_eq]; rfl
    · simp (disch := omega) only [sI_ne, sI_eq]; rfl
    · simp (disch := omega) only [sI_ne, sI_eq]; rfl
  · obtain rfl | rfl | rfl : f = 0 ∨ f = 1 ∨ f = 2 := by omega
    · simp (disch := omega) only [sI_ne, sI_eq]
    · simp (disch := omega) only [sI_ne, sI_eq]
    · simp (disch := omega) only [sI_ne, sI_eq]
end

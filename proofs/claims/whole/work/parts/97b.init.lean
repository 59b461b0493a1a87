/-! PROVINCE: where the reference begins to read. -/
section
variable {T : Nat → Nat} {t : Nat}
theorem m_init {L : mT} (h1 : L.1 187 1 = nI t) (hb : ∀ k, k < t → L.1 188 k = nI (T k)) : ∃ L', fX12_readAll L = (bndV (fX12_token L') fun S => fX12_readAll_72 mK S) ∧ tpM T t L' ∧ L'.1 187 2 = nI 0 ∧ L'.1 187 4 = nI 0 ∧ L'.1 187 1 = 0 ∧ L'.1 187 3 = -1 ∧ L'.1 187 35 = nI 0 ∧ L'.1 187 36 = nI 0 ∧ L'.1 187 38 = 0 ∧ L'.1 187 23 = nI 0 ∧ L'.1 198 0 = 0 ∧ L'.1 198 1 = 0 ∧ L'.1 198 2 = 0 ∧ (∀ a j, a ≠ 187 → a ≠ 198 → L'.1 a j = L.1 a j) ∧ (∀ j, j ≠ 1 → j ≠ 2 → j ≠ 3 → j ≠ 4 → j ≠ 5 → j ≠ 23 → j ≠ 35 → j ≠ 36 → j ≠ 38 → L'.1 187 j = L.1 187 j) ∧ L'.2 = L.2 := by
  obtain ⟨K, hK⟩ : ∃ K, mK = K + 4 := ⟨999996, rfl⟩
  have fit0 : mFit .boolean (0 : Int32) = true := by decide
  have n0 : vp_nar .boolean (0 : Int32) = 0 := by decide
  have b0 : mIn (0 : Int32) 3 = true := by decide
  have b1 : mIn (1 : Int32) 3 = true := by decide
  have b2 : mIn (2 : Int32) 3 = true := by decide
  have i0 : mIx (0 : Int32) = 0 := by decide
  have i1 : mIx (1 : Int32) = 1 := by decide
  have i2 : mIx (2 : Int32) = 2 := by decide
  have s0 : (0 : Int32) + 1 = 1 := by decide
  have s1 : (1 : Int32) + 1 = 2 := by decide
  have s2 : (2 : Int32) + 1 = 3 := by decide
  have c0 : ¬ (3 : Int32) ≤ 0 := by decide
  have c1 : ¬ (3 : Int32) ≤ 1 := by decide
  have c2 : ¬ (3 : Int32) ≤ 2 := by decide
  have c3 : (3 : Int32) ≤ 3 := by decide
  have e50 : ∀ S, fX12_readAll_50 (K + 4) (0 : Int32) S = (bndV (fX12_token (sI (sI (sI S 198 0 (0 : Int32)) 198 1 (0 : Int32)) 198 2 (0 : Int32))) fun S => fX12_readAll_72 mK S) := fun S => by
    simp only [fX12_readAll_50, if_neg c0, if_neg c1, if_neg c2, if_pos c3, kO_187, kB_198, kN_198, g_t, b_d, b_c, b_v, Bool.and_true, Bool.and_self, Bool.true_and, b0, b1, b2, i0, i1, i2, n0, s0, s1, s2]
  have run : fX12_readAll L = (bndV (fX12_token (sI (sI (sI (sI (sI (sI (sI (sI (sI (sI (sI (sI L 187 5 (nI t)) 187 1 (0 : Int32)) 187 4 (0 : Int32)) 187 2 (0 : Int32)) 187 3 (-1 : Int32)) 187 35 (0 : Int32)) 187 36 (0 : Int32)) 187 38 (0 : Int32)) 187 23 (0 : Int32)) 198 0 (0 : Int32)) 198 1 (0 : Int32)) 198 2 (0 : Int32))) fun S => fX12_readAll_72 mK S) := by
    rw [← e50, ← hK]
    simp only [fX12_readAll, kO_187, fit0, g_t, b_d, b_c, b_v, Bool.and_true, Bool.and_self, Bool.true_and, h1]
  refine ⟨_, run, ⟨?_, fun k hk => ?_⟩, ?_, ?_, ?_, ?_, ?_, ?_, ?_, ?_, ?_, ?_, ?_, fun a j g1 g2 => ?_, fun j g1 g2 g3 g4 g5 g6 g7 g8 g9 => ?_, ?_⟩
  · simp (disch := omega) only [sI_ne, sI_eq]
  · simp (disch := omega) only [sI_ne]; exact hb k hk
  · simp (disch := omega) only [sI_ne, sI_eq]; rfl
  · simp (disch := omega) only [sI_ne, sI_eq]; rfl
  · simp (disch := omega) only [sI_ne, sI_eq]
  · simp (disch := omega) only [sI_ne, sI_eq]
  · simp (disch := omega) only [sI_ne, sI_eq]; rfl
  · simp (disch := omega) only [sI_ne, sI_eq]; rfl
  · simp (disch := omega) only [sI_ne, sI_eq]
  · simp (disch := omega) only [sI_ne, sI_eq]; rfl
  · simp (disch := omega) only [sI_ne, sI_eq]
  · simp (disch := omega) only [sI_ne, sI_eq]
  · simp (disch := omega) only [sI_eq]
  · simp (disch := omega) only [sI_ne]
  · simp (disch := omega) only [sI_ne]
  · simp only [sI_2]
end

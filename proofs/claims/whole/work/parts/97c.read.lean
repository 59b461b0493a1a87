/-! PROVINCE: readAll by both. -/
section
variable {T : Nat → Nat} {t : Nat}
theorem j_read (ht : t ≤ 1600) (hT : ∀ k, k < t → T k < 256) {u : Nat} (hu : kSh u) {C L : mT} (htc : tpC T t C) (h1 : L.1 187 1 = nI t) (hb : ∀ k, k < t → L.1 188 k = nI (T k)) : ∃ r C' L0 L', fX4_readAll u C = some (r, C') ∧ fX12_readAll L = some L' ∧ fKl u C C' ∧ fZl L0 L' ∧ endA T t u r C' L' ∧ L0.1 187 1 = 0 ∧ (L'.1 187 2 = 0 → L'.1 187 3 = -1) ∧ (∀ a j, a ≠ 187 → a ≠ 198 → L0.1 a j = L.1 a j) ∧ (∀ j, j ≠ 1 → j ≠ 2 → j ≠ 3 → j ≠ 4 → j ≠ 5 → j ≠ 23 → j ≠ 35 → j ≠ 36 → j ≠ 38 → L0.1 187 j = L.1 187 j) ∧ L0.2 = L.2 := by
  have hu7 := hu.2.2.2.2.2.2
  obtain ⟨C1, a1, a2, a3, a4, a5, a6, a7⟩ := c_clear hu C
  obtain ⟨C2, hC2⟩ : ∃ C2, sI (sI C1 1 2 (0 : Int32)) 1 6 (0 : Int32) = C2 := ⟨_, rfl⟩
  have f2 : fKl u C C2 := a2.tr (by rw [← hC2]; exact ⟨fun a j g1 g2 => by rw [sI_ne (by omega), sI_ne (by omega)], fun a j _ _ => by rw [sI_2, sI_2], by rw [sI_ne (by omega), sI_ne (by omega)]⟩)
  obtain ⟨C3, b1, b2, b3⟩ := c_adv ht hT (p := 0) (by omega) (f2.tp hu htc) (by rw [← hC2, sI_ne (by omega), sI_eq]; rfl) (by rw [← hC2, sI_eq]; rfl)
  have eC : ∀ a j, a ≠ 1 → C3.1 a j = C1.1 a j := fun a j g => by rw [(b3.1 a j g).1, ← hC2, sI_ne (by omega), sI_ne (by omega)]
  obtain ⟨L0, m1, m2, m3, m4, m5, m6, m7, m8, m9, m10, m11, m12, m13, m14, m15, m16⟩ := m_init (T := T) h1 hb
  obtain ⟨L3, q1, q2, q3⟩ := m_tok ht hT (p := 0) (by omega) m2 m3 m4
  have crun : fX4_readAll u C = fX4_readAll_20 u mK (0 : Int32) C3 := by
    simp only [fX4_readAll, a1, kO_1, g_t, b_d, b_c, b_v, Bool.and_true, Bool.and_self, Bool.true_and, hC2, b1]
  have mrun : fX12_readAll L = fX12_readAll_72 mK L3 := by rw [m1, q1, b_v]
  have law : ∀ f, f < 3 → L3.1 198 f = 0 → lawJ f (u + 6 + 3 * f) 0 C3 L3 := fun f hf h => Or.inl ⟨by rw [eC _ _ (by omega)]; exact (a7 f hf).2.2, by rw [eC _ _ (by omega)]; exact (a7 f hf).1, by rw [eC _ _ (by omega)]; exact (a7 f hf).2.1, rfl, h⟩
  have R3 : RJ T t u C3 L3 := ⟨0, 0, 0, 0, ⟨by omega, by rw [eC _ _ (by omega)]; exact a4, by rw [q3.1 _ _ (by omega)]; exact m7, fun h hh => by omega, fun h hh => by omega⟩, law 0 (by omega) (by rw [q3.1 _ _ (by omega)]; exact m11), law 1 (by omega) (by rw [q3.1 _ _ (by omega)]; exact m12), law 2 (by omega) (by rw [q3.1 _ _ (by omega)]; exact m13), by rw [q3.1 _ _ (by omega)]; exact m10, Or.inl ⟨by rw [eC _ _ (by omega)]; exact a6, by rw [q3.1 _ _ (by omega)]; exact m9, by rw [eC _ _ (by omega)]; exact a5, by rw [q3.1 _ _ (by omega)]; exact m8⟩⟩
  have e3 : L3.1 187 3 = -1 := by rw [q3.1 _ _ (by omega)]; exact m6
  have f3 := f2.tr b3.kl
  have g3 : fZl L0 L3 := q3.qw.zl
  rw [crun, mrun]
  rcases b2 with z | ⟨z1, z2⟩
  · obtain ⟨r, C4, L4, y1, y2, y3, y4, y5⟩ := j_loop ht hT hu (t + 1) 0 mK mK 0 C3 L3 (by omega) (by have := mK_gt; omega) (by have := mK_gt; omega) (by omega) (by omega) (f3.tp hu htc) (g3.tp m2) z q2 R3
    exact ⟨r, C4, L0, L4, y1, y2, f3.tr y3, g3.tr y4, y5, m5, fun z => ((wX12_readAll_72 _ _ y2 z).2).trans e3, m14, m15, m16⟩
  · obtain ⟨L4, y1, y2, y3, y4⟩ := j_halt hT (u := u) (Or.inl ⟨0, by omega, z1, z2, q2⟩) 999999 999998 (0 : Int32)
    exact ⟨0, C3, L0, L4, y1, y2, f3, g3.tr y3, Or.inr ⟨rfl, y4⟩, m5, fun z => ((wX12_readAll_72 _ _ y2 z).2).trans e3, m14, m15, m16⟩
end

/-! PROVINCE: a line that may not stand; frames of a line. -/
def fKl (u : Nat) (C C' : mT) : Prop := (∀ a j, a ≠ 1 → (a < u ∨ u + 15 < a) → C'.1 a j = C.1 a j) ∧ (∀ a j, a ≠ 1 → a ≠ u + 1 → C'.2 a j = C.2 a j) ∧ C'.1 1 1 = C.1 1 1
def fZl (L L' : mT) : Prop := (∀ a j, ¬ (190 ≤ a ∧ a ≤ 192) → a ≠ 196 → a ≠ 198 → ¬ (201 ≤ a ∧ a ≤ 204) → ¬ (a = 187 ∧ (j = 2 ∨ j = 3 ∨ j = 4 ∨ j = 6 ∨ j = 7 ∨ j = 8 ∨ j = 21 ∨ j = 22 ∨ j = 23 ∨ j = 25 ∨ j = 26 ∨ j = 35 ∨ j = 36 ∨ j = 38)) → L'.1 a j = L.1 a j) ∧ ∀ a j, ¬ (a = 187 ∧ j = 9) → a ≠ 189 → L'.2 a j = L.2 a j
section
variable {T : Nat → Nat} {t : Nat}
theorem fKl.rf (u : Nat) (C : mT) : fKl u C C := ⟨fun _ _ _ _ => rfl, fun _ _ _ _ => rfl, rfl⟩
theorem fKl.tr {u : Nat} {C D E : mT} (h : fKl u C D) (h2 : fKl u D E) : fKl u C E := ⟨fun a j g1 g2 => (h2.1 a j g1 g2).trans (h.1 a j g1 g2), fun a j g1 g2 => (h2.2.1 a j g1 g2).trans (h.2.1 a j g1 g2), h2.2.2.trans h.2.2⟩
theorem fZl.rf (L : mT) : fZl L L := ⟨fun _ _ _ _ _ _ _ => rfl, fun _ _ _ _ => rfl⟩
theorem fZl.tr {C D E : mT} (h : fZl C D) (h2 : fZl D E) : fZl C E := ⟨fun a j g1 g2 g3 g4 g5 => (h2.1 a j g1 g2 g3 g4 g5).trans (h.1 a j g1 g2 g3 g4 g5), fun a j g1 g2 => (h2.2 a j g1 g2).trans (h.2 a j g1 g2)⟩
theorem fR.kl {u : Nat} {C C' : mT} (h : fR C C') : fKl u C C' := ⟨fun a j g _ => (h.1 a j g).1, fun a j g _ => (h.1 a j g).2, h.2⟩
theorem fH.kl {u : Nat} {C C' : mT} (h : fH u C C') : fKl u C C' := ⟨fun a j g g2 => h.1 a j g (by omega) (by omega) (by omega) (by omega) (by omega), h.2.1, h.2.2⟩
theorem fKw.kl {u f : Nat} (hf : f < 3) {C C' : mT} (h : fKw (u + 6 + 3 * f) C C') : fKl u C C' := ⟨fun a j g g2 => h.1 a j g (by omega) (by omega), fun a j g _ => h.2.1 a j g, h.2.2⟩
theorem fQw.zl {L L' : mT} (h : fQw L L') : fZl L L' := ⟨fun a j _ _ _ _ g => h.1 a j (by omega), fun a j g _ => h.2 a j g⟩
theorem fHm.zl {L L' : mT} (h : fHm L L') : fZl L L' := ⟨fun a j _ _ _ g4 g5 => h.1 a j (by omega) g4, fun a j g1 g2 => h.2 a j g1 g2⟩
theorem fZw.zl {f : Nat} {L L' : mT} (h : fZw f L L') : fZl L L' := ⟨fun a j g1 g2 g3 g4 g5 => h.1 a j (by omega) (by omega) (by omega) g2 (by omega) (by omega), fun a j g1 _ => h.2.1 a j g1⟩
theorem fKl.tp {u : Nat} (hu : kSh u) {C C' : mT} (h : fKl u C C') (hp : tpC T t C) : tpC T t C' := by
  have hu7 := hu.2.2.2.2.2.2
  exact ⟨by rw [h.2.2]; exact hp.1, fun k hk => by rw [h.1 _ _ (by omega) (by omega)]; exact hp.2 k hk⟩
theorem fZl.tp {L L' : mT} (h : fZl L L') (hp : tpM T t L) : tpM T t L' := ⟨by rw [h.1 _ _ (by omega) (by omega) (by omega) (by omega) (by omega)]; exact hp.1, fun k hk => by rw [h.1 _ _ (by omega) (by omega) (by omega) (by omega) (by omega)]; exact hp.2 k hk⟩
/-- no kind of line: the reference -/
theorem m_fall (hT : ∀ k, k < t → T k < 256) {p : Nat} (hp : p ≤ t) {L : mT} (hm : mTo T t p L) (h0 : wkN T t p = cwN 0 → (5 : Int32) ≤ L.1 187 35) (h5 : wkN T t p = cwN 5 → ¬ L.1 198 0 = 0) (h6 : wkN T t p = cwN 6 → ¬ L.1 198 1 = 0) (h7 : wkN T t p = cwN 7 → ¬ L.1 198 2 = 0) (h8 : wkN T t p = cwN 8 → ¬ L.1 187 38 = 0) : ∃ L1, fX12_readLine L = fX12_readLine_151 L1 ∧ mD (if tkN T t p = 4 then 1 else 2) (tbN T t p) L1 ∧ fQw L L1 := by
  obtain ⟨k0, k1, k2, k3, k4, k5, k6, k7, k8, _⟩ := cw_c
  have t1 : ¬ (1 : Int32) = 0 := by decide
  obtain ⟨L1, w1, w2, w3, w4⟩ := m_wr hT hm (w := 2) (by omega) (by omega)
  have w1' : fX12_wrong (2 : Int32) L = some L1 := w1
  have m0 : fX12_isWord (448546567013 : Int64) L = some (if wkN T t p = cwN 0 then 1 else 0, L) := by rw [k0]; exact m_isW hm (j := 0) (by omega) hT hp
  have m5 : fX12_isWord (1936746868 : Int64) L = some (if wkN T t p = cwN 5 then 1 else 0, L) := by rw [k5]; exact m_isW hm (j := 5) (by omega) hT hp
  have m6 : fX12_isWord (7627128 : Int64) L = some (if wkN T t p = cwN 6 then 1 else 0, L) := by rw [k6]; exact m_isW hm (j := 6) (by omega) hT hp
  have m7 : fX12_isWord (1735552887 : Int64) L = some (if wkN T t p = cwN 7 then 1 else 0, L) := by rw [k7]; exact m_isW hm (j := 7) (by omega) hT hp
  have m8 : fX12_isWord (1685217655 : Int64) L = some (if wkN T t p = cwN 8 then 1 else 0, L) := by rw [k8]; exact m_isW hm (j := 8) (by omega) hT hp
  have b0 : mIn (0 : Int32) 3 = true := by decide
  have b1 : mIn (1 : Int32) 3 = true := by decide
  have b2 : mIn (2 : Int32) 3 = true := by decide
  have i0 : mIx (0 : Int32) = 0 := by decide
  have i1 : mIx (1 : Int32) = 1 := by decide
  have i2 : mIx (2 : Int32) = 2 := by decide
  have e146 : fX12_readLine_146 L = fX12_readLine_151 L1 := by
    simp only [fX12_readLine_146, w1', g_t, b_d, b_c, b_v, Bool.and_true, Bool.and_self, Bool.true_and]
  have e106 : fX12_readLine_106 L = fX12_readLine_151 L1 := by
    by_cases c : wkN T t p = cwN 8
    · rw [if_pos c] at m8
      simp only [fX12_readLine_106, m8, g_t, b_d, b_c, b_v, Bool.and_true, Bool.and_self, Bool.true_and, if_neg t1, kO_187, if_neg (h8 c), e146]
    · rw [if_neg c] at m8
      simp only [fX12_readLine_106, m8, g_t, b_d, b_c, b_v, Bool.and_true, Bool.and_self, Bool.true_and, if_true, e146]
  have e79 : fX12_readLine_79 L = fX12_readLine_151 L1 := by
    by_cases c : wkN T t p = cwN 7
    · rw [if_pos c] at m7
      simp only [fX12_readLine_79, m7, g_t, b_d, b_c, b_v, Bool.and_true, Bool.and_self, Bool.true_and, if_neg t1, kO_187, kB_198, b2, i2, if_neg (h7 c), e106]
    · rw [if_neg c] at m7
      simp only [fX12_readLine_79, m7, g_t, b_d, b_c, b_v, Bool.and_true, Bool.and_self, Bool.true_and, if_true, e106]
  have e52 : fX12_readLine_52 L = fX12_readLine_151 L1 := by
    by_cases c : wkN T t p = cwN 6
    · rw [if_pos c] at m6
      simp only [fX12_readLine_52, m6, g_t, b_d, b_c, b_v, Bool.and_true, Bool.and_self, Bool.true_and, if_neg t1, kO_187, kB_198, b1, i1, if_neg (h6 c), e79]
    · rw [if_neg c] at m6
      simp only [fX12_readLine_52, m6, g_t, b_d, b_c, b_v, Bool.and_true, Bool.and_self, Bool.true_and, if_true, e79]
  have e25 : fX12_readLine_25 L = fX12_readLine_151 L1 := by
    by_cases c : wkN T t p = cwN 5
    · rw [if_pos c] at m5
      simp only [fX12_readLine_25, m5, g_t, b_d, b_c, b_v, Bool.and_true, Bool.and_self, Bool.true_and, if_neg t1, kO_187, kB_198, b0, i0, if_neg (h5 c), e52]
    · rw [if_neg c] at m5
      simp only [fX12_readLine_25, m5, g_t, b_d, b_c, b_v, Bool.and_true, Bool.and_self, Bool.true_and, if_true, e52]
  refine ⟨L1, ?_, w2, wr_qw w3 w4⟩
  by_cases c : wkN T t p = cwN 0
  · rw [if_pos c] at m0
    simp only [fX12_readLine, m0, g_t, b_d, b_c, b_v, Bool.and_true, Bool.and_self, Bool.true_and, if_neg t1, kO_187, if_pos (h0 c), e25]
  · rw [if_neg c] at m0
    simp only [fX12_readLine, m0, g_t, b_d, b_c, b_v, Bool.and_true, Bool.and_self, Bool.true_and, if_true, e25]
/-- a second draw, with its frame -/
theorem c_draw2' {u p : Nat} (hu : kSh u) {C : mT} (hc : cT T t p C) (h11 : C.1 u 11 = 1) : ∃ C', fX4_readDraw u C = some C' ∧ cD 2 (tbN T t p) C' ∧ fKl u C C' := by
  have hu7 := hu.2.2.2.2.2.2
  have fit1 : mFit .boolean (1 : Int32) = true := by decide
  have c : ¬ C.1 u 11 = 0 := by rw [h11]; decide
  obtain ⟨C1, d1, d2, d3⟩ := c_ref0 hc.1 hc.2.2.2.1 (f := 2) (by omega) (by omega)
  have d1' : fX4_refuse (2 : Int32) C = some C1 := d1
  have d4 : cD 2 (tbN T t p) (sI C1 u 11 (1 : Int32)) := ⟨d2.1, d2.2.1, by rw [sI_ne (by omega)]; exact d2.2.2.1, by rw [sI_ne (by omega)]; exact d2.2.2.2.1, by rw [sI_ne (by omega)]; exact d2.2.2.2.2⟩
  obtain ⟨x, C2, a1, a2, a3⟩ := c_toldD d4 (j := 8) (by omega) (999 : Int32)
  have a1' : fX4_takeTold 900008 (999 : Int32) (sI C1 u 11 (1 : Int32)) = some (x, C2) := a1
  refine ⟨sI C2 u 10 x, ?_, ⟨a2.1, a2.2.1, by rw [sI_ne (by omega)]; exact a2.2.2.1, by rw [sI_ne (by omega)]; exact a2.2.2.2.1, by rw [sI_ne (by omega)]; exact a2.2.2.2.2⟩, fun a j g1 g2 => by rw [sI_ne (by omega), (a3.1 _ _ g1).1, sI_ne (by omega), (d3.1 _ _ g1).1], fun a j g1 g2 => by rw [sI_2, (a3.1 _ _ g1).2, sI_2, (d3.1 _ _ g1).2], by rw [sI_ne (by omega), a3.2, sI_ne (by omega), d3.2]⟩
  simp only [fX4_readDraw, fX4_readDraw_12, hu.1, fit1, g_t, b_d, b_c, b_v, Bool.and_true, Bool.and_self, Bool.true_and, if_neg c, d1', a1']
end

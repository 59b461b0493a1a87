/-! HOUSE, SUM. -/
def stH (S : mT) (u i : Nat) : Int32 := stP S (S.1 35 i) (S.1 35 (5 + i)) (S.1 (u + 4) i) (S.1 (u + 5) i) (S.1 35 15)
def txH (S : mT) (u i : Nat) (st : Int32) : Int32 := txP S st (S.1 (u + 4) i) (S.1 35 15)
/-- the class's cells but what a law's working writes -/
def cEq (u : Nat) (S C : mT) : Prop := ∀ a j, a ≠ u + 15 → a ≠ u + 8 → a ≠ u + 11 → C.1 a j = S.1 a j
theorem cEq.rfl' (u : Nat) (S : mT) : cEq u S S := fun _ _ _ _ _ => rfl
theorem cEq.tr {u : Nat} {S C D : mT} (h : cEq u S C) (h2 : cEq u C D) : cEq u S D := fun a j g1 g2 g3 => (h2 a j g1 g2 g3).trans (h a j g1 g2 g3)
section
variable {b : Bool} {n : Nat} {S C : mT}
theorem cEq.law (h : cEq (shU b) S C) : lawEq S C := lawEq_of fun a j g => h a j (by cases b <;> simp only [shU, cond] <;> omega) (by cases b <;> simp only [shU, cond] <;> omega) (by cases b <;> simp only [shU, cond] <;> omega)
theorem cEq.laws (h : cEq (shU b) S C) (g : rLaws (shU b) S) : rLaws (shU b) C := rLaws_fr (fun a j q => h a j (by cases b <;> simp only [shU, cond] at * <;> omega) (by cases b <;> simp only [shU, cond] at * <;> omega) (by cases b <;> simp only [shU, cond] at * <;> omega)) g
theorem cEq.at35 (h : cEq (shU b) S C) (j : Nat) : C.1 35 j = S.1 35 j := h 35 j (by cases b <;> decide) (by cases b <;> decide) (by cases b <;> decide)
theorem cEq.u4 (h : cEq (shU b) S C) (j : Nat) : C.1 (shU b + 4) j = S.1 (shU b + 4) j := h _ j (by omega) (by omega) (by omega)
theorem cEq.u5 (h : cEq (shU b) S C) (j : Nat) : C.1 (shU b + 5) j = S.1 (shU b + 5) j := h _ j (by omega) (by omega) (by omega)
theorem cEq.u2 (h : cEq (shU b) S C) (j : Nat) : C.1 (shU b + 2) j = S.1 (shU b + 2) j := h _ j (by omega) (by omega) (by omega)
theorem cEq.u0 (h : cEq (shU b) S C) (j : Nat) : C.1 (shU b) j = S.1 (shU b) j := h _ j (by omega) (by omega) (by omega)
theorem cl_st (hF : rLaws (shU b) S) (h : cEq (shU b) S C) {i : Nat} (hi : i < 5) : ∃ C', fX8_stonesOf (shU b) 35 (nI i) C = some (stH S (shU b) i, C') ∧ cEq (shU b) S C' := by
  obtain ⟨C', h1, h2⟩ := c_stones (h.laws hF) kI_35 (by cases b <;> decide) hi
  refine ⟨C', ?_, h.tr (fun a j g1 g2 _ => h2 a j g1 g2)⟩
  rw [h1, stP_eq h.law, h.at35, h.at35, h.at35, h.u4, h.u5]
  rfl
theorem cl_sth (hF : rLaws (shU b) S) (h : cEq (shU b) S C) {i : Nat} (hi : i < 5) (hid : Int32) : ∃ C', fX8_stonesHiding (shU b) 35 (nI i) hid C = some (stP S (S.1 35 i) hid (S.1 (shU b + 4) i) (S.1 (shU b + 5) i) (S.1 35 15), C') ∧ cEq (shU b) S C' := by
  obtain ⟨C', h1, h2⟩ := c_stonesH (h.laws hF) kI_35 (by cases b <;> decide) hi hid
  refine ⟨C', ?_, h.tr (fun a j g1 g2 _ => h2 a j g1 g2)⟩
  rw [h1, stP_eq h.law, h.at35, h.at35, h.u4, h.u5]
theorem cl_tx (hF : rLaws (shU b) S) (h : cEq (shU b) S C) {i : Nat} (hi : i < 5) (st : Int32) : ∃ C', fX8_taxOf (shU b) st (nI i) (S.1 35 15) C = some (txH S (shU b) i st, C') ∧ cEq (shU b) S C' := by
  obtain ⟨C', h1, h2⟩ := c_tax (h.laws hF) hi st (S.1 35 15)
  refine ⟨C', ?_, h.tr (fun a j g1 _ g2 => h2 a j g1 g2)⟩
  rw [h1, txP_eq h.law, h.u4]
  rfl
end
/-- the reference's cells when it has loaded what is now -/
def rLd (u n : Nat) (S L : mT) : Prop := (∀ j, j < 5 → L.1 209 j = S.1 35 j ∧ L.1 210 j = S.1 35 (5 + j) ∧ L.1 211 j = S.1 35 (10 + j)) ∧ L.1 187 43 = S.1 35 15 ∧ L.1 187 37 = nI n ∧ rLaws u L ∧ lawEq S L ∧ (∀ j, j < n → L.1 205 j = S.1 (u + 2) j ∧ L.1 206 j = S.1 (u + 4) j ∧ L.1 207 j = S.1 (u + 5) j) ∧ L.1 187 44 = S.1 35 16
section
variable {u n : Nat} {S L : mT}
theorem rLd_fr {L' : mT} (hu : u < 100) (h : rLd u n S L) (f : ∀ a j, a ≠ 200 → a ≠ 197 → L'.1 a j = L.1 a j) : rLd u n S L' := by
  obtain ⟨h1, h2, h3, h4, h5, h6, h7⟩ := h
  refine ⟨fun j hj => ?_, ?_, ?_, rLaws_fr (fun a j g => f a j (by omega) (by omega)) h4, ?_, fun j hj => ?_, ?_⟩
  · rw [f _ _ (by omega) (by omega), f _ _ (by omega) (by omega), f _ _ (by omega) (by omega)]
    exact h1 j hj
  · rw [f _ _ (by omega) (by omega)]
    exact h2
  · rw [f _ _ (by omega) (by omega)]
    exact h3
  · exact lawEq_of fun a j g => by
      rw [f a j (by omega) (by omega)]
      rcases g with rfl | rfl | rfl | rfl
      · rw [h5.1]
      · rw [h5.2.1]
      · rw [h5.2.2.1]
      · rw [h5.2.2.2]
  · rw [f _ _ (by omega) (by omega), f _ _ (by omega) (by omega), f _ _ (by omega) (by omega)]
    exact h6 j hj
  · rw [f _ _ (by omega) (by omega)]
    exact h7
theorem m_load {T : mT} (hu : u < 100) (hA : rA u n S) (hN : rNow S) (a : agr (supAll u) S T) : ∃ L, fX12_load T = some L ∧ rLd u n S L ∧ (∀ a j, a ≠ 209 → a ≠ 210 → a ≠ 211 → ¬ (a = 187 ∧ (j = 43 ∨ j = 44)) → L.1 a j = T.1 a j) := by
  obtain ⟨L, l1, l2, l3, l4, l5⟩ := s_load T
  obtain ⟨aA, aN, _⟩ := (agr_app.mp a).imp id fun q => agr_app.mp q
  have hA' := rA_fr aA hA
  have e208 : ∀ j, j < 17 → T.1 208 j = S.1 35 j := fun j hj => by
    have : T.1 208 = S.1 208 := agr_row aN (by simp) 208 (Nat.le_refl _) (Nat.le_refl _)
    rw [this]
    exact hN.2 j hj
  have rw1 : ∀ c, (c, c, none) ∈ supA u → T.1 c = S.1 c := fun c m => agr_row aA m c (Nat.le_refl _) (Nat.le_refl _)
  refine ⟨L, l1, ⟨fun j hj => ?_, ?_, ?_, ?_, ?_, fun j hj => ?_, ?_⟩, l5⟩
  · rw [(l2 j hj).1, (l2 j hj).2.1, (l2 j hj).2.2, e208 _ (by omega), e208 _ (by omega), e208 _ (by omega)]
    exact ⟨rfl, rfl, rfl⟩
  · rw [l3]
    exact e208 15 (by omega)
  · rw [l5 _ _ (by omega) (by omega) (by omega) (by omega)]
    exact hA'.1.2.2.1
  · exact rLaws_fr (fun a j g => l5 a j (by omega) (by omega) (by omega) (by omega)) hA'.2.2.2.1
  · exact lawEq_of fun a j g => by
      rw [l5 a j (by omega) (by omega) (by omega) (by omega)]
      rcases g with rfl | rfl | rfl | rfl
      · rw [rw1 193 (by simp)]
      · rw [rw1 194 (by simp)]
      · rw [rw1 195 (by simp)]
      · rw [rw1 199 (by simp)]
  · obtain ⟨p, q, r, _, _, _, c1, c2, c3, c4, c5, c6⟩ := hA.1.2.2.2 j hj
    rw [l5 205 j (by omega) (by omega) (by omega) (by omega), l5 206 j (by omega) (by omega) (by omega) (by omega), l5 207 j (by omega) (by omega) (by omega) (by omega), rw1 205 (by simp), rw1 206 (by simp), rw1 207 (by simp), c1, c2, c3, c4, c5, c6]
    exact ⟨rfl, rfl, rfl⟩
  · rw [l4]
    exact e208 16 (by omega)
theorem ml_st (hu : u < 100) (h : rLd u n S L) {i : Nat} (hi : i < n) (hn : n ≤ 5) : ∃ L', fX12_stonesOf (nI i) L = some (stH S u i, L') ∧ rLd u n S L' ∧ ∀ a j, a ≠ 200 → a ≠ 197 → L'.1 a j = L.1 a j := by
  obtain ⟨L', h1, h2⟩ := m_stones (h := i) h.2.2.2.1 hu (by omega)
  refine ⟨L', ?_, rLd_fr hu h h2, h2⟩
  rw [h1, stP_eq h.2.2.2.2.1, (h.1 i (by omega)).1, (h.1 i (by omega)).2.1, h.2.1, (h.2.2.2.2.2.1 i hi).2.1, (h.2.2.2.2.2.1 i hi).2.2]
  rfl
theorem ml_tx (hu : u < 100) (h : rLd u n S L) {i : Nat} (hi : i < n) (hn : n ≤ 5) (st : Int32) : ∃ L', fX12_taxOf (nI i) st L = some (txH S u i st, L') ∧ rLd u n S L' ∧ ∀ a j, a ≠ 200 → a ≠ 197 → L'.1 a j = L.1 a j := by
  obtain ⟨L', h1, h2⟩ := m_tax (h := i) h.2.2.2.1 hu (by omega) st
  refine ⟨L', ?_, rLd_fr hu h h2, h2⟩
  rw [h1, txP_eq h.2.2.2.2.1, h.2.1, (h.2.2.2.2.2.1 i hi).2.1]
  rfl
end
/-- what is asked of a house -/
def hv (S : mT) (u i w : Nat) : Int32 := if w = 0 then S.1 (u + 2) i else if w = 1 then S.1 35 i else if w = 2 then S.1 35 (5 + i) else if w = 3 then S.1 35 (10 + i) else if w = 4 then S.1 (u + 4) i else if w = 5 then S.1 (u + 5) i else if w = 6 then stH S u i else if w = 7 then tI (stH S u i < S.1 (u + 4) i) else if w = 8 then txH S u i (S.1 35 (10 + i)) else txH S u i (stH S u i)
theorem zL (h : Nat) : (nI 0) + nI h = nI h := by rw [nI_add, Nat.zero_add]
section
variable {b : Bool} {n : Nat} {S C : mT}
theorem c_house (hn : n ≤ 5) (n1 : S.1 (shU b) 9 = nI n) (hF : rLaws (shU b) S) (h : cEq (shU b) S C) {i w : Nat} (hi : i < n) (hw : w < 10) : ∃ C', fX11_house b (nI i) (nI w) C = some (hv S (shU b) i w, C') ∧ cEq (shU b) S C' := by
  have n2 : C.1 (shU b) 9 = nI n := (h.u0 9).trans n1
  have hB := hB_in hi hn
  have j15 := h.at35 15
  rcases (by omega : w = 0 ∨ w = 1 ∨ w = 2 ∨ w = 3 ∨ w = 4 ∨ w = 5 ∨ w = 6 ∨ w = 7 ∨ w = 8 ∨ w = 9) with rfl | rfl | rfl | rfl | rfl | rfl | rfl | rfl | rfl | rfl
  · exact ⟨C, by simp (disch := omega) [fX11_house, kO_0, kI_35, kO_u, kI_u2, kI_u4, kI_u5, fX11_house_164, g_t, b_d, b_c, b_v, Bool.and_true, Bool.and_self, Bool.true_and, xL, xN1, nI_add, xM, xS, xP, xIx, xIn, xLe, xLt, xEq, xDv, s_isHouseC n2, hB, hv, h.u2], h⟩
  · exact ⟨C, by simp (disch := omega) [fX11_house, kO_0, kI_35, kO_u, kI_u2, kI_u4, kI_u5, fX11_house_164, g_t, b_d, b_c, b_v, Bool.and_true, Bool.and_self, Bool.true_and, xL, xN1, nI_add, xM, xS, xP, xIx, xIn, xLe, xLt, xEq, xDv, s_isHouseC n2, hB, hv, h.at35], h⟩
  · exact ⟨C, by simp (disch := omega) [fX11_house, kO_0, kI_35, kO_u, kI_u2, kI_u4, kI_u5, fX11_house_164, g_t, b_d, b_c, b_v, Bool.and_true, Bool.and_self, Bool.true_and, xL, xN1, nI_add, xM, xS, xP, xIx, xIn, xLe, xLt, xEq, xDv, s_isHouseC n2, hB, hv, h.at35], h⟩
  · exact ⟨C, by simp (disch := omega) [fX11_house, kO_0, kI_35, kO_u, kI_u2, kI_u4, kI_u5, fX11_house_164, g_t, b_d, b_c, b_v, Bool.and_true, Bool.and_self, Bool.true_and, xL, xN1, nI_add, xM, xS, xP, xIx, xIn, xLe, xLt, xEq, xDv, s_isHouseC n2, hB, hv, h.at35], h⟩
  · exact ⟨C, by simp (disch := omega) [fX11_house, kO_0, kI_35, kO_u, kI_u2, kI_u4, kI_u5, fX11_house_164, g_t, b_d, b_c, b_v, Bool.and_true, Bool.and_self, Bool.true_and, xL, xN1, nI_add, xM, xS, xP, xIx, xIn, xLe, xLt, xEq, xDv, s_isHouseC n2, hB, hv, h.u4], h⟩
  · exact ⟨C, by simp (disch := omega) [fX11_house, kO_0, kI_35, kO_u, kI_u2, kI_u4, kI_u5, fX11_house_164, g_t, b_d, b_c, b_v, Bool.and_true, Bool.and_self, Bool.true_and, xL, xN1, nI_add, xM, xS, xP, xIx, xIn, xLe, xLt, xEq, xDv, s_isHouseC n2, hB, hv, h.u5], h⟩
  · obtain ⟨C', e1, e2⟩ := cl_st hF h (i := i) (by omega)
    exact ⟨C', by simp (disch := omega) [fX11_house, kO_0, kI_35, kO_u, kI_u2, kI_u4, kI_u5, fX11_house_164, g_t, b_d, b_c, b_v, Bool.and_true, Bool.and_self, Bool.true_and, xL, xN1, nI_add, xM, xS, xP, xIx, xIn, xLe, xLt, xEq, xDv, s_isHouseC n2, hB, hv, e1], e2⟩
  · obtain ⟨C', e1, e2⟩ := cl_st hF h (i := i) (by omega)
    refine ⟨C', ?_, e2⟩
    by_cases c : stH S (shU b) i < S.1 (shU b + 4) i
    · have c' : ¬ S.1 (shU b + 4) i ≤ stH S (shU b) i := Int32.not_le.mpr c
      simp (disch := omega) [fX11_house, kO_0, kI_35, kO_u, kI_u2, kI_u4, kI_u5, fX11_house_164, g_t, b_d, b_c, b_v, Bool.and_true, Bool.and_self, Bool.true_and, xL, xN1, nI_add, xM, xS, xP, xIx, xIn, xLe, xLt, xEq, xDv, s_isHouseC n2, hB, hv, e1, e2.u4, c', c, tI]
    · have c' : S.1 (shU b + 4) i ≤ stH S (shU b) i := Int32.not_lt.mp c
      simp (disch := omega) [fX11_house, kO_0, kI_35, kO_u, kI_u2, kI_u4, kI_u5, fX11_house_164, g_t, b_d, b_c, b_v, Bool.and_true, Bool.and_self, Bool.true_and, xL, xN1, nI_add, xM, xS, xP, xIx, xIn, xLe, xLt, xEq, xDv, s_isHouseC n2, hB, hv, e1, e2.u4, c', c, tI]
  · obtain ⟨C', e1, e2⟩ := cl_tx hF h (i := i) (by omega) (S.1 35 (10 + i))
    exact ⟨C', by simp (disch := omega) [fX11_house, kO_0, kI_35, kO_u, kI_u2, kI_u4, kI_u5, fX11_house_164, g_t, b_d, b_c, b_v, Bool.and_true, Bool.and_self, Bool.true_and, xL, xN1, nI_add, xM, xS, xP, xIx, xIn, xLe, xLt, xEq, xDv, s_isHouseC n2, hB, hv, h.at35, e1], e2⟩
  · obtain ⟨C', e1, e2⟩ := cl_st hF h (i := i) (by omega)
    obtain ⟨C2, e3, e4⟩ := cl_tx hF e2 (i := i) (by omega) (stH S (shU b) i)
    exact ⟨C2, by simp (disch := omega) [fX11_house, kO_0, kI_35, kO_u, kI_u2, kI_u4, kI_u5, fX11_house_164, g_t, b_d, b_c, b_v, Bool.and_true, Bool.and_self, Bool.true_and, xL, xN1, nI_add, xM, xS, xP, xIx, xIn, xLe, xLt, xEq, xDv, s_isHouseC n2, hB, hv, e2.at35, e1, e3], e4⟩
end
section
variable {u n : Nat} {S L : mT}
theorem m_house {T : mT} (hu : u < 100) (hn : n ≤ 5) (n2 : T.1 187 37 = nI n) (hl : fX12_load T = some L) (h : rLd u n S L) {i w : Nat} (hi : i < n) (hw : w < 10) : ∃ L', fX12_house (nI i) (nI w) T = some (hv S u i w, L') := by
  have hB := hB_in hi hn
  obtain ⟨c9, c10, c11⟩ := h.1 i (by omega)
  obtain ⟨c5, c6, c7⟩ := h.2.2.2.2.2.1 i hi
  rcases (by omega : w = 0 ∨ w = 1 ∨ w = 2 ∨ w = 3 ∨ w = 4 ∨ w = 5 ∨ w = 6 ∨ w = 7 ∨ w = 8 ∨ w = 9) with rfl | rfl | rfl | rfl | rfl | rfl | rfl | rfl | rfl | rfl
  · exact ⟨L, by simp (disch := omega) [fX12_house, kO_187, kI_205, kI_209, kI_210, kI_211, kI_206, kI_207, g_t, b_d, b_c, b_v, Bool.and_true, Bool.and_self, Bool.true_and, xL, xN1, nI_add, xM, xS, xP, xIx, xIn, xLe, xLt, xEq, xDv, s_isHouseM hn n2, hB, hv, hl, c5]⟩
  · exact ⟨L, by simp (disch := omega) [fX12_house, kO_187, kI_205, kI_209, kI_210, kI_211, kI_206, kI_207, g_t, b_d, b_c, b_v, Bool.and_true, Bool.and_self, Bool.true_and, xL, xN1, nI_add, xM, xS, xP, xIx, xIn, xLe, xLt, xEq, xDv, s_isHouseM hn n2, hB, hv, hl, c9]⟩
  · exact ⟨L, by simp (disch := omega) [fX12_house, kO_187, kI_205, kI_209, kI_210, kI_211, kI_206, kI_207, g_t, b_d, b_c, b_v, Bool.and_true, Bool.and_self, Bool.true_and, xL, xN1, nI_add, xM, xS, xP, xIx, xIn, xLe, xLt, xEq, xDv, s_isHouseM hn n2, hB, hv, hl, c10]⟩
  · exact ⟨L, by simp (disch := omega) [fX12_house, kO_187, kI_205, kI_209, kI_210, kI_211, kI_206, kI_207, g_t, b_d, b_c, b_v, Bool.and_true, Bool.and_self, Bool.true_and, xL, xN1, nI_add, xM, xS, xP, xIx, xIn, xLe, xLt, xEq, xDv, s_isHouseM hn n2, hB, hv, hl, c11]⟩
  · exact ⟨L, by simp (disch := omega) [fX12_house, kO_187, kI_205, kI_209, kI_210, kI_211, kI_206, kI_207, g_t, b_d, b_c, b_v, Bool.and_true, Bool.and_self, Bool.true_and, xL, xN1, nI_add, xM, xS, xP, xIx, xIn, xLe, xLt, xEq, xDv, s_isHouseM hn n2, hB, hv, hl, c6]⟩
  · exact ⟨L, by simp (disch := omega) [fX12_house, kO_187, kI_205, kI_209, kI_210, kI_211, kI_206, kI_207, g_t, b_d, b_c, b_v, Bool.and_true, Bool.and_self, Bool.true_and, xL, xN1, nI_add, xM, xS, xP, xIx, xIn, xLe, xLt, xEq, xDv, s_isHouseM hn n2, hB, hv, hl, c7]⟩
  · obtain ⟨L', e1, e2, _⟩ := ml_st hu h hi hn
    exact ⟨L', by simp (disch := omega) [fX12_house, kO_187, kI_205, kI_209, kI_210, kI_211, kI_206, kI_207, g_t, b_d, b_c, b_v, Bool.and_true, Bool.and_self, Bool.true_and, xL, xN1, nI_add, xM, xS, xP, xIx, xIn, xLe, xLt, xEq, xDv, s_isHouseM hn n2, hB, hv, hl, e1]⟩
  · obtain ⟨L', e1, e2, _⟩ := ml_st hu h hi hn
    have c6' := (e2.2.2.2.2.2.1 i hi).2.1
    refine ⟨L', ?_⟩
    by_cases c : stH S u i < S.1 (u + 4) i
    · have c' : ¬ S.1 (u + 4) i ≤ stH S u i := Int32.not_le.mpr c
      simp (disch := omega) [fX12_house, kO_187, kI_205, kI_209, kI_210, kI_211, kI_206, kI_207, fX12_shows, kO_187, kI_206, fX12_shows_19, g_t, b_d, b_c, b_v, Bool.and_true, Bool.and_self, Bool.true_and, xL, xN1, nI_add, xM, xS, xP, xIx, xIn, xLe, xLt, xEq, xDv, s_isHouseM hn n2, hB, hv, hl, e1, c6', c, c', tI, s_truth, mFit1]
    · have c' : S.1 (u + 4) i ≤ stH S u i := Int32.not_lt.mp c
      simp (disch := omega) [fX12_house, kO_187, kI_205, kI_209, kI_210, kI_211, kI_206, kI_207, fX12_shows, kO_187, kI_206, fX12_shows_19, g_t, b_d, b_c, b_v, Bool.and_true, Bool.and_self, Bool.true_and, xL, xN1, nI_add, xM, xS, xP, xIx, xIn, xLe, xLt, xEq, xDv, s_isHouseM hn n2, hB, hv, hl, e1, c6', c, c', tI, s_truth, mFit0]
  · obtain ⟨L', e1, e2, _⟩ := ml_tx hu h hi hn (S.1 35 (10 + i))
    exact ⟨L', by simp (disch := omega) [fX12_house, kO_187, kI_205, kI_209, kI_210, kI_211, kI_206, kI_207, g_t, b_d, b_c, b_v, Bool.and_true, Bool.and_self, Bool.true_and, xL, xN1, nI_add, xM, xS, xP, xIx, xIn, xLe, xLt, xEq, xDv, s_isHouseM hn n2, hB, hv, hl, c11, e1]⟩
  · obtain ⟨L', e1, e2, _⟩ := ml_st hu h hi hn
    obtain ⟨L2, e3, e4, _⟩ := ml_tx hu e2 hi hn (stH S u i)
    exact ⟨L2, by simp (disch := omega) [fX12_house, kO_187, kI_205, kI_209, kI_210, kI_211, kI_206, kI_207, g_t, b_d, b_c, b_v, Bool.and_true, Bool.and_self, Bool.true_and, xL, xN1, nI_add, xM, xS, xP, xIx, xIn, xLe, xLt, xEq, xDv, s_isHouseM hn n2, hB, hv, hl, e1, e3]⟩
end
theorem shU_lt (b : Bool) : shU b < 100 := by cases b <;> decide
theorem nI_inj_cases (v : Int32) (m : Nat) (hm : m < 2000000) : (∃ w, w < m ∧ v = nI w) ∨ ∀ w, w < m → ¬ v = nI w := by
  by_cases h : ∃ w, w < m ∧ v = nI w
  · exact Or.inl h
  · exact Or.inr fun w hw e => h ⟨w, hw, e⟩
theorem zz_house : zH_house Rel := by
  intro k b S v v2 hk h
  obtain ⟨n, hA, hN, hBx, hC, hT, hL⟩ := Rel_iff.mp h
  have hn := hA.1.1
  have n1 := hA.1.2.1
  have n2 := hA.1.2.2.1
  rcases h_cases n (by omega) v with ⟨i, hi, rfl⟩ | hv
  · rcases nI_inj_cases v2 10 (by omega) with ⟨w, hw, rfl⟩ | hw
    · obtain ⟨C, hf1, hc⟩ := c_house hn n1 hA.2.2.2.1 (cEq.rfl' _ S) hi hw
      have a1 : agr (supAll (shU b)) S C := av_agr (L := cond b LX11_house_t LX11_house_f) (by cases b; exact rX11_house_f hf1; exact rX11_house_t hf1) (by cases b <;> decide +kernel)
      have hAC := rA_fr (agr_app.mp a1).1 hA
      obtain ⟨L, l1, l2, _⟩ := m_load (shU_lt b) hA hN.1 a1
      obtain ⟨L', hf2⟩ := m_house (shU_lt b) hn hAC.1.2.2.1 l1 l2 hi hw
      exact ⟨_, _, _, hf1, hf2, Rel_fr (agr_trans (av_agr (L := cond b LX11_house_t LX11_house_f) (by cases b; exact rX11_house_f hf1; exact rX11_house_t hf1) (by cases b <;> decide +kernel)) (av_agr (rX12_house hf2) (by cases b <;> decide +kernel))) h⟩
    · obtain ⟨L, l1, l2, _⟩ := m_load (shU_lt b) hA hN.1 (agr_rfl _ S)
      have q : ∀ w, w < 10 → ¬ v2 = nI w := hw
      have q0 : ¬ v2 = 0 := q 0 (by omega)
      have q1 : ¬ v2 = 1 := q 1 (by omega)
      have q2 : ¬ v2 = 2 := q 2 (by omega)
      have q3 : ¬ v2 = 3 := q 3 (by omega)
      have q4 : ¬ v2 = 4 := q 4 (by omega)
      have q5 : ¬ v2 = 5 := q 5 (by omega)
      have q6 : ¬ v2 = 6 := q 6 (by omega)
      have q7 : ¬ v2 = 7 := q 7 (by omega)
      have q8 : ¬ v2 = 8 := q 8 (by omega)
      have q9 : ¬ v2 = 9 := q 9 (by omega)
      have hf1 : fX11_house b (nI i) v2 S = some (-1, S) := by
        simp (disch := omega) [fX11_house, kO_0, kI_35, kO_u, kI_u2, kI_u4, kI_u5, fX11_house_164, g_t, b_d, b_c, b_v, Bool.and_true, Bool.and_self, Bool.true_and, s_isHouseC n1, hB_in, q0, q1, q2, q3, q4, q5, q6, q7, q8, q9]
      have hf2 : fX12_house (nI i) v2 S = some (-1, L) := by
        simp (disch := omega) [fX12_house, kO_187, kI_205, kI_209, kI_210, kI_211, kI_206, kI_207, g_t, b_d, b_c, b_v, Bool.and_true, Bool.and_self, Bool.true_and, s_isHouseM hn n2, hB_in, l1, q0, q1, q2, q3, q4, q5, q6, q7, q8, q9]
      exact ⟨_, _, _, hf1, hf2, Rel_fr (agr_trans (av_agr (L := cond b LX11_house_t LX11_house_f) (by cases b; exact rX11_house_f hf1; exact rX11_house_t hf1) (by cases b <;> decide +kernel)) (av_agr (rX12_house hf2) (by cases b <;> decide +kernel))) h⟩
  · refine ⟨-1, S, S, ?_, ?_, Rel_up h⟩
    · simp [fX11_house, kO_0, kI_35, kO_u, kI_u2, kI_u4, kI_u5, fX11_house_164, g_t, b_d, b_c, b_v, Bool.and_true, Bool.and_self, Bool.true_and, s_isHouseC n1, hB_out hv]
    · simp [fX12_house, kO_187, kI_205, kI_209, kI_210, kI_211, kI_206, kI_207, g_t, b_d, b_c, b_v, Bool.and_true, Bool.and_self, Bool.true_and, s_isHouseM hn n2, hB_out hv]

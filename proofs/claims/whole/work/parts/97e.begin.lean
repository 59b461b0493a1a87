/-! PROVINCE: how the class begins a new road. -/
theorem c_boxes : ∀ (m i k : Nat) (S : mT), i + m = 3 → m < k → ∃ S', fX2_emptyBoxes_2 k (nI i) S = some S' ∧ (∀ j, i ≤ j → j < 3 → S'.1 84 j = 0) ∧ ∀ a j, ¬ (a = 84 ∧ i ≤ j) → S'.1 a j = S.1 a j
  | 0, i, k, S, hi, hk => by
    obtain ⟨k', rfl⟩ := up1 hk
    have hi : i = 3 := by omega
    subst hi
    have c : (3 : Int32) ≤ nI 3 := by decide
    exact ⟨S, by simp only [fX2_emptyBoxes_2, if_pos c], fun j _ _ => by omega, fun _ _ _ => rfl⟩
  | m + 1, i, k, S, hi, hk => by
    obtain ⟨k', rfl⟩ := up1 hk
    have c : ¬ (3 : Int32) ≤ nI i := fun z => by have := (xLe (a := 3) (by omega) (by omega)).mp z; omega
    have o1 : nI i + (1 : Int32) = nI (i + 1) := nI_add i 1
    have n0 : vp_nar .boolean (0 : Int32) = 0 := by decide
    have b1 : mIn (nI i) 3 = true := xIn (by omega) (by omega)
    have i1 : mIx (nI i) = i := xIx (by omega)
    obtain ⟨S', h1, h2, h3⟩ := c_boxes m (i + 1) k' (sI S 84 i 0) (by omega) (by omega)
    refine ⟨S', ?_, fun j g1 g2 => ?_, fun a j g => ?_⟩
    · rw [← h1]
      conv => lhs; unfold fX2_emptyBoxes_2
      simp only [if_neg c, kO_37, kB_84, kN_84, g_t, b_d, b_c, b_v, Bool.and_true, Bool.and_self, Bool.true_and, b1, i1, n0, o1]
    · by_cases q : j = i
      · subst q
        rw [h3 _ _ (by omega), sI_eq]
      · exact h2 j (by omega) g2
    · rw [h3 _ _ (by omega), sI_ne (by omega)]
theorem c_begin {u n : Nat} (hu : kSh u) (hn : n ≤ 5) {S : mT} (h9 : S.1 u 9 = nI n) : ∃ S', fX8_begin u 35 S = some S' ∧ (∀ j, j < 17 → S'.1 35 j = if j = 16 then S.1 u 10 else if j < n then S.1 (u + 3) j else 0) ∧ ∀ a j, a ≠ 35 → S'.1 a j = S.1 a j := by
  have hu7 := hu.2.2.2.2.2.2
  have s3 : sT (u + 3) = .inr (.int, 5) := by rcases hu7 with rfl | rfl <;> decide +kernel
  have b3 : Nat.blt (u + 3) 233 = true := by rcases hu7 with rfl | rfl <;> decide +kernel
  obtain ⟨A, a1, a2, a3⟩ := s_fill s_35 (by decide +kernel) (by omega) (0 : Int32) S
  have hk := kC_of s3 b3 s_35 (by decide +kernel) (0 : Int32) (0 : Int32) (nI n)
  rw [cpOk0 (by omega) (by omega) (by omega)] at hk
  have e9 : A.1 u 9 = nI n := by rw [a3 _ _ (by omega)]; exact h9
  have b16 : mIn (16 : Int32) 17 = true := by decide
  have i16 : mIx (16 : Int32) = 16 := by decide
  have e10 : (sC A (u + 3) 35 (0 : Int32) (0 : Int32) (nI n)).1 u 10 = S.1 u 10 := by rw [sC0 (by omega), if_neg (by omega), a3 _ _ (by omega)]
  refine ⟨sI (sC A (u + 3) 35 (0 : Int32) (0 : Int32) (nI n)) 35 16 (S.1 u 10), ?_, fun j hj => ?_, fun a j g => ?_⟩
  · simp only [fX8_begin, a1, g_t, b_d, b_c, b_v, Bool.and_true, Bool.and_self, Bool.true_and, e9, hk, hu.1, kI_35, b16, i16, e10]
  · by_cases q : j = 16
    · subst q
      rw [sI_eq, if_pos rfl]
    · rw [sI_ne (by omega), sC0 (by omega), if_neg q]
      by_cases q2 : j < n
      · rw [if_pos ⟨rfl, q2⟩, if_pos q2, a3 _ _ (by omega)]
      · rw [if_neg (by omega), if_neg q2]
        exact a2 j hj
  · rw [sI_ne (by omega), sC0 (by omega), if_neg (by omega), a3 _ _ g]
theorem c_start (S : mT) : ∃ S', fX2_startFrom 35 S = some S' ∧ S'.1 37 3 = nI 0 ∧ S'.1 37 4 = nI 0 ∧ S'.1 37 5 = nI 0 ∧ (∀ j, j < 17 → S'.1 39 j = S.1 35 j) ∧ ∀ a j, a ≠ 39 → ¬ (a = 37 ∧ (j = 3 ∨ j = 4 ∨ j = 5)) → S'.1 a j = S.1 a j := by
  have hcp := s_copyFrom (S := sI (sI (sI S 37 3 (nI 0)) 37 4 (nI 0)) 37 5 (nI 0)) (o := 0) (bh := 0) (by omega) (by omega) (by simp [sI_rd]) (by simp [sI_rd])
  have hst : fX2_startFrom 35 S = some (sC (sI (sI (sI S 37 3 (nI 0)) 37 4 (nI 0)) 37 5 (nI 0)) 35 39 (0 : Int32) (0 : Int32) (17 : Int32)) := by
    unfold fX2_startFrom
    rw [kO_37]
    show bndV (fX2_copyFrom 35 (sI (sI (sI S 37 3 (nI 0)) 37 4 (nI 0)) 37 5 (nI 0))) _ = _
    rw [hcp]
    rfl
  refine ⟨_, hst, ?_, ?_, ?_, fun j hj => ?_, fun a j g1 g2 => ?_⟩
  · rw [sC17, if_neg (by omega), sI_ne (by omega), sI_ne (by omega), sI_eq]
  · rw [sC17, if_neg (by omega), sI_ne (by omega), sI_eq]
  · rw [sC17, if_neg (by omega), sI_eq]
  · rw [sC17, if_pos ⟨rfl, hj⟩, sI_ne (by omega), sI_ne (by omega), sI_ne (by omega)]
  · rw [sC17, if_neg (by omega), sI_ne (by omega), sI_ne (by omega), sI_ne (by omega)]
theorem shV_n (b : Bool) : shV b = shU (!b) := by cases b <;> rfl
/-- what the class holds when a province is read -/
theorem c_prov {b : Bool} {S D : mT} {n : Nat} (hn : n ≤ 5) (hr : fX4_readAll (shU (!b)) S = some (1, D)) (h9 : D.1 (shU (!b)) 9 = nI n) : ∃ S1, fX11_province b S = some (nI n, S1, !b) ∧ (∀ j, j < 17 → S1.1 35 j = if j = 16 then D.1 (shU (!b)) 10 else if j < n then D.1 (shU (!b) + 3) j else 0) ∧ (∀ j, j < 17 → S1.1 39 j = S1.1 35 j) ∧ (S1.1 37 3 = nI 0 ∧ S1.1 37 4 = nI 0 ∧ S1.1 37 5 = nI 0) ∧ (∀ x, x < 3 → S1.1 84 x = 0) ∧ S1.1 114 5 = 0 ∧ S1.1 120 14 = 0 ∧ S1.1 140 8 = 0 ∧ S1.1 0 13 = 0 ∧ S1.1 1 1 = 0 ∧
    ∀ a j, a ≠ 35 → a ≠ 39 → a ≠ 84 → ¬ (a = 37 ∧ (j = 3 ∨ j = 4 ∨ j = 5)) → ¬ (a = 114 ∧ j = 5) → ¬ (a = 120 ∧ j = 14) → ¬ (a = 140 ∧ j = 8) → ¬ (a = 0 ∧ j = 13) → ¬ (a = 1 ∧ j = 1) → S1.1 a j = D.1 a j := by
  have hu := kSh_b (!b)
  have hv := shV_n b
  have hu7 := hu.2.2.2.2.2.2
  obtain ⟨A, a1, a2, a3⟩ := c_begin hu hn (S := sI D 1 1 (0 : Int32)) (by rw [sI_ne (by omega)]; exact h9)
  obtain ⟨B, b1, b2, b3, b4, b5, b6⟩ := c_start A
  obtain ⟨E, e1, e2, e3⟩ := c_boxes 3 0 mK B (by omega) (by have := mK_gt; omega)
  have e1' : fX2_emptyBoxes B = some E := e1
  have fit0 : mFit .boolean (0 : Int32) = true := by decide
  have t1 : ¬ (1 : Int32) = 0 := by decide
  have EA : ∀ a j, a ≠ 84 → a ≠ 39 → ¬ (a = 37 ∧ (j = 3 ∨ j = 4 ∨ j = 5)) → E.1 a j = A.1 a j := fun a j g1 g2 g3 => by rw [e3 _ _ (by omega), b6 _ _ g2 g3]
  obtain ⟨Z, hZ⟩ : ∃ Z, sI (sI (sI (sI E 114 5 (0 : Int32)) 120 14 (0 : Int32)) 140 8 (0 : Int32)) 0 13 (0 : Int32) = Z := ⟨_, rfl⟩
  have zE : ∀ a j, ¬ (a = 114 ∧ j = 5) → ¬ (a = 120 ∧ j = 14) → ¬ (a = 140 ∧ j = 8) → ¬ (a = 0 ∧ j = 13) → Z.1 a j = E.1 a j := fun a j g1 g2 g3 g4 => by rw [← hZ, sI_ne g4, sI_ne g3, sI_ne g2, sI_ne g1]
  have z9 : Z.1 (shU (!b)) 9 = nI n := by rw [zE _ _ (by omega) (by omega) (by omega) (by omega), EA _ _ (by omega) (by omega) (by omega), a3 _ _ (by omega), sI_ne (by omega)]; exact h9
  have run : fX11_province b S = some (nI n, Z, !b) := by
    unfold fX11_province
    rw [hv]
    simp only [kO_0, kO_1, kO_114, hu.1, g_t, b_d, b_c, b_v, Bool.and_true, Bool.and_self, Bool.true_and, hr, if_neg t1, a1, b1, e1', fX10_forget, fX3_forget, kO_120, kO_140, fit0, hZ, z9]
  have z35 : ∀ j, Z.1 35 j = A.1 35 j := fun j => by rw [zE _ _ (by omega) (by omega) (by omega) (by omega), EA _ _ (by omega) (by omega) (by omega)]
  refine ⟨Z, run, fun j hj => ?_, fun j hj => ?_, ⟨?_, ?_, ?_⟩, fun x hx => ?_, ?_, ?_, ?_, ?_, ?_, fun a j g1 g2 g3 g4 g5 g6 g7 g8 g9 => ?_⟩
  · rw [z35, a2 j hj, sI_ne (by omega), sI_ne (by omega)]
  · rw [z35, zE _ _ (by omega) (by omega) (by omega) (by omega), e3 _ _ (by omega), b5 j hj]
  · rw [zE _ _ (by omega) (by omega) (by omega) (by omega), e3 _ _ (by omega)]; exact b2
  · rw [zE _ _ (by omega) (by omega) (by omega) (by omega), e3 _ _ (by omega)]; exact b3
  · rw [zE _ _ (by omega) (by omega) (by omega) (by omega), e3 _ _ (by omega)]; exact b4
  · rw [zE _ _ (by omega) (by omega) (by omega) (by omega)]; exact e2 x (by omega) hx
  · rw [← hZ, sI_ne (by omega), sI_ne (by omega), sI_ne (by omega), sI_eq]
  · rw [← hZ, sI_ne (by omega), sI_ne (by omega), sI_eq]
  · rw [← hZ, sI_ne (by omega), sI_eq]
  · rw [← hZ, sI_eq]
  · rw [zE _ _ (by omega) (by omega) (by omega) (by omega), EA _ _ (by omega) (by omega) (by omega), a3 _ _ (by omega), sI_eq]
  · rw [zE _ _ g5 g6 g7 g8, EA _ _ g3 g2 g4, a3 _ _ g1, sI_ne g9]
/-- the class refuses a province -/
theorem c_provN {b : Bool} {S D : mT} (hr : fX4_readAll (shU (!b)) S = some (0, D)) : fX11_province b S = some (-1, sI D 1 1 (0 : Int32), b) := by
  have hv := shV_n b
  unfold fX11_province
  rw [hv]
  simp only [kO_0, kO_1, g_t, b_d, b_c, b_v, Bool.and_true, Bool.and_self, Bool.true_and, hr, if_true]

/-! Goes, moves; undo, redo; the boxes. -/
theorem j17 {j : Nat} (h : j < 17) : j < 5 ∨ (∃ q, q < 5 ∧ j = 5 + q) ∨ (∃ q, q < 5 ∧ j = 10 + q) ∨ j = 15 ∨ j = 16 := by
  by_cases h1 : j < 5
  · exact Or.inl h1
  by_cases h2 : j < 10
  · exact Or.inr (Or.inl ⟨j - 5, by omega, by omega⟩)
  by_cases h3 : j < 15
  · exact Or.inr (Or.inr (Or.inl ⟨j - 10, by omega, by omega⟩))
  exact Or.inr (Or.inr (Or.inr (by omega)))
theorem nmin' {a c : Nat} : (if a < c then nI a else nI c) = nI (min a c) := by
  by_cases h : a < c
  · rw [if_pos h]
    congr 1
    omega
  · rw [if_neg h]
    congr 1
    omega
theorem nmin2 {a c : Nat} : (if a ≤ c then nI a else nI c) = nI (min a c) := by
  by_cases h : a ≤ c
  · rw [if_pos h]
    congr 1
    omega
  · rw [if_neg h]
    congr 1
    omega
theorem s_leaveOne {S : mT} {i x y : Nat} (hi : i < 5) (hx : 1 ≤ x) (hx7 : x ≤ 7) (hy : y ≤ x) (e1 : S.1 35 i = nI x) (e2 : S.1 35 (5 + i) = nI y) : fX11_leaveOne (nI i) S = some (sI (sI S 35 i (nI (x - 1))) 35 (5 + i) (nI (min (x - 1) y))) := by
  simp (disch := omega) [fX11_leaveOne, kO_0, kI_35, g_t, b_d, b_c, b_v, Bool.and_true, Bool.and_self, Bool.true_and, xL, xN1, nI_add, xM, xS, xP, xIx, xIn, xLe, xLt, xEq, xDv, e1, e2, sI_rd, nmin']
theorem s_nmh {S : mT} {i x y : Nat} (hi : i < 5) (hx7 : x ≤ 7) (hy : y ≤ 7) (e1 : S.1 209 i = nI x) (e2 : S.1 210 i = nI y) : fX12_notMoreHidden (nI i) S = some (sI S 210 i (nI (min y x))) := by
  by_cases c : y ≤ x
  · simp (disch := omega) [fX12_notMoreHidden, kO_187, kI_210, kI_209, fX12_notMoreHidden_35, g_t, b_d, b_c, b_v, Bool.and_true, Bool.and_self, Bool.true_and, xL, xN1, nI_add, xM, xS, xP, xIx, xIn, xLe, xLt, xEq, xDv, e1, e2, c, Nat.min_eq_left c]
  · simp (disch := omega) [fX12_notMoreHidden, kO_187, kI_210, kI_209, fX12_notMoreHidden_35, g_t, b_d, b_c, b_v, Bool.and_true, Bool.and_self, Bool.true_and, xL, xN1, nI_add, xM, xS, xP, xIx, xIn, xLe, xLt, xEq, xDv, e1, e2, c, Nat.min_eq_right (by omega : x ≤ y)]
theorem s_leaves {S : mT} {i x y : Nat} (hi : i < 5) (hx : 1 ≤ x) (hx7 : x ≤ 7) (hy : y ≤ x) (e1 : S.1 208 i = nI x) (e2 : S.1 208 (5 + i) = nI y) : ∃ S', fX12_leaves (nI i) S = some S' ∧ (∀ j, j < 17 → S'.1 208 j = if j = i then nI (x - 1) else if j = 5 + i then nI (min (x - 1) y) else S.1 208 j) ∧ (∀ a j, a ≠ 208 → a ≠ 209 → a ≠ 210 → a ≠ 211 → ¬ (a = 187 ∧ (j = 43 ∨ j = 44)) → S'.1 a j = S.1 a j) := by
  obtain ⟨S1, l1, l2, l3, l4, l5⟩ := s_load S
  have h9 : S1.1 209 i = nI x := ((l2 i hi).1).trans e1
  have h10 : S1.1 210 i = nI y := ((l2 i hi).2.1).trans e2
  obtain ⟨S4, k1, k2, k3, k4, k5⟩ := s_keepM (sI (sI S1 209 i (nI (x - 1))) 210 i (nI (min y (x - 1))))
  refine ⟨S4, ?_, fun j hj => ?_, fun a j g1 g2 g3 g4 g5 => ?_⟩
  · unfold fX12_leaves
    rw [l1]
    simp (disch := omega) [kI_209, kO_187, g_t, b_d, b_c, b_v, Bool.and_true, Bool.and_self, Bool.true_and, xL, xN1, nI_add, xM, xS, xP, xIx, xIn, xLe, xLt, xEq, xDv, h9]
    rw [s_nmh (x := x - 1) (y := y) hi (by omega) (by omega) (by simp [sI_rd]) (by simp [sI_rd, h10])]
    simp only [g_t, b_d, b_c, b_v, Bool.and_true, Bool.and_self, Bool.true_and]
    rw [k1]
    rfl
  · rcases j17 hj with c | ⟨q, hq, rfl⟩ | ⟨q, hq, rfl⟩ | rfl | rfl
    · rw [(k2 j c).1, sI_rd, if_neg (by omega), sI_rd, (l2 j c).1]
      by_cases e : j = i
      · simp [e]
      · rw [if_neg (by omega), if_neg e, if_neg (by omega)]
    · rw [(k2 q hq).2.1, sI_rd]
      by_cases e : q = i
      · subst e
        rw [if_pos ⟨rfl, rfl⟩, if_neg (by omega), if_pos rfl, Nat.min_comm]
      · rw [if_neg (by omega), sI_rd, if_neg (by omega), (l2 q hq).2.1, if_neg (by omega), if_neg (by omega)]
    · rw [(k2 q hq).2.2, sI_rd, if_neg (by omega), sI_rd, if_neg (by omega), (l2 q hq).2.2, if_neg (by omega), if_neg (by omega)]
    · rw [k3, sI_rd, if_neg (by omega), sI_rd, if_neg (by omega), l3, if_neg (by omega), if_neg (by omega)]
    · rw [k4, sI_rd, if_neg (by omega), sI_rd, if_neg (by omega), l4, if_neg (by omega), if_neg (by omega)]
  · rw [k5 a j g1, sI_rd, if_neg (by omega), sI_rd, if_neg (by omega), l5 a j g2 g3 g4 g5]
theorem zz_goes : zH_goes Rel := by
  intro k b S v hk h
  obtain ⟨n, hA, hN, hBx, hC, hT, hL⟩ := Rel_iff.mp h
  have hn := hA.1.1
  have n1 := hA.1.2.1
  have n2 := hA.1.2.2.1
  have w := hN.1.2
  rcases h_cases n (by omega) v with ⟨i, hi, rfl⟩ | hv
  · obtain ⟨x, y, z, hx, hy, hz, x1, y1, z1⟩ := hN.1.1.1 i (by omega)
    have x2 := (w i (by omega)).trans x1
    have y2 := (w (5 + i) (by omega)).trans y1
    by_cases c : x = 0
    · refine ⟨-1, S, S, ?_, ?_, Rel_up h⟩
      · simp (disch := omega) [fX11_goes, kO_0, kI_35, fX11_goes_19, g_t, b_d, b_c, b_v, Bool.and_true, Bool.and_self, Bool.true_and, xL, xN1, nI_add, xM, xS, xP, xIx, xIn, xLe, xLt, xEq, xDv, s_isHouseC n1, hB_in, x1, c]
      · simp (disch := omega) [fX12_goes, kO_187, kI_208, fX12_goes_17, g_t, b_d, b_c, b_v, Bool.and_true, Bool.and_self, Bool.true_and, xL, xN1, nI_add, xM, xS, xP, xIx, xIn, xLe, xLt, xEq, xDv, s_isHouseM hn n2, hB_in, x2, c]
    · have hT : ∀ j, (sI (sI S 35 i (nI (x - 1))) 35 (5 + i) (nI (min (x - 1) y))).1 35 j = if j = 5 + i then nI (min (x - 1) y) else if j = i then nI (x - 1) else S.1 35 j := fun j => by simp [sI_rd]
      have hTo : ∀ a j, a ≠ 35 → (sI (sI S 35 i (nI (x - 1))) 35 (5 + i) (nI (min (x - 1) y))).1 a j = S.1 a j := fun a j g => by simp [sI_rd, g]
      obtain ⟨S3, S4, k1, a1, k2, a2, fin⟩ := act_fin (S := S) (T := sI (sI S 35 i (nI (x - 1))) 35 (5 + i) (nI (min (x - 1) y))) hN (fun a j g => hTo a j (by omega)) (okRow_up (x := x - 1) (y := min (x - 1) y) (z := z) hN.1.1 (by omega : i < 5) (by omega) (by omega) hz (by rw [hT, if_neg (by omega), if_pos rfl]) (by rw [hT, if_pos rfl]) (by rw [hT, if_neg (by omega), if_neg (by omega)]; exact z1) (fun k _ g1 g2 _ => by rw [hT, if_neg g2, if_neg g1]))
      have e208 : ∀ j, S4.1 208 j = S.1 208 j := fun j => by rw [a2 _ _ (by omega) (by omega) (by omega) (by omega), hTo _ _ (by omega)]
      obtain ⟨S5, v1, v2, v3⟩ := s_leaves (S := S4) (i := i) (x := x) (y := y) (by omega) (by omega) hx hy ((e208 i).trans x2) ((e208 (5 + i)).trans y2)
      have hf1 : fX11_goes b (nI i) S = some (nI (x - 1), S3) := by
        have c2 : 0 < x := by omega
        have e3 : S3.1 35 i = nI (x - 1) := by rw [k2 _ _ (by omega) (by omega), hT, if_neg (by omega), if_pos rfl]
        simp (disch := omega) [fX11_goes, kO_0, kI_35, fX11_goes_19, g_t, b_d, b_c, b_v, Bool.and_true, Bool.and_self, Bool.true_and, xL, xN1, nI_add, xM, xS, xP, xIx, xIn, xLe, xLt, xEq, xDv, s_isHouseC n1, hB_in, x1, c2, s_leaveOne (by omega) (by omega) hx hy x1 y1, k1, e3]
      have hf2 : fX12_goes (nI i) S3 = some (nI (x - 1), S5) := by
        have e3 : S3.1 208 i = nI x := by rw [k2 _ _ (by omega) (by omega), hTo _ _ (by omega)]; exact x2
        have e5 : S3.1 187 37 = nI n := by rw [k2 _ _ (by omega) (by omega), hTo _ _ (by omega)]; exact n2
        have e6 : S5.1 208 i = nI (x - 1) := by rw [v2 i (by omega), if_pos rfl]
        simp (disch := omega) [fX12_goes, kO_187, kI_208, fX12_goes_17, g_t, b_d, b_c, b_v, Bool.and_true, Bool.and_self, Bool.true_and, xL, xN1, nI_add, xM, xS, xP, xIx, xIn, xLe, xLt, xEq, xDv, s_isHouseM hn e5, hB_in, e3, c, a1, v1, e6]
      refine ⟨_, _, _, hf1, hf2, Rel_nn (agr_trans (av_agr (L := cond b LX11_goes_t LX11_goes_f) (by cases b; exact rX11_goes_f hf1; exact rX11_goes_t hf1) (by cases b <;> decide +kernel)) (av_agr (rX12_goes hf2) (by cases b <;> decide +kernel))) h (fin _ (fun a j g1 g2 g3 g4 g5 _ => v3 a j g1 g2 g3 g4 (by omega)) (fun j hj => ?_))⟩
      rw [v2 j hj, hT, e208, w j hj]
      by_cases c1 : j = i
      · rw [if_pos c1, if_neg (by omega), if_pos c1]
      · rw [if_neg c1, if_neg c1]
  · refine ⟨-1, S, S, ?_, ?_, Rel_up h⟩
    · simp [fX11_goes, kO_0, kI_35, fX11_goes_19, g_t, b_d, b_c, b_v, Bool.and_true, Bool.and_self, Bool.true_and, s_isHouseC n1, hB_out hv]
    · simp [fX12_goes, kO_187, kI_208, fX12_goes_17, g_t, b_d, b_c, b_v, Bool.and_true, Bool.and_self, Bool.true_and, s_isHouseM hn n2, hB_out hv]
theorem zz_moves : zH_moves Rel := by
  intro k b S v v2 hk h
  obtain ⟨n, hA, hN, hBx, hC, hT, hL⟩ := Rel_iff.mp h
  have hn := hA.1.1
  have n1 := hA.1.2.1
  have n2 := hA.1.2.2.1
  have w := hN.1.2
  rcases h_cases n (by omega) v with ⟨i, hi, rfl⟩ | hv
  · rcases h_cases n (by omega) v2 with ⟨t, ht, rfl⟩ | hv
    · obtain ⟨x, y, z, hx, hy, hz, x1, y1, z1⟩ := hN.1.1.1 i (by omega)
      obtain ⟨x', y', z', hx', hy', hz', x1', y1', z1'⟩ := hN.1.1.1 t (by omega)
      have x2 := (w i (by omega)).trans x1
      have y2 := (w (5 + i) (by omega)).trans y1
      have x2' := (w t (by omega)).trans x1'
      by_cases c0 : i = t
      · refine ⟨-1, S, S, ?_, ?_, Rel_up h⟩
        · simp (disch := omega) [fX11_moves, kO_0, kI_35, fX11_moves_21, fX11_moves_47, g_t, b_d, b_c, b_v, Bool.and_true, Bool.and_self, Bool.true_and, xL, xN1, nI_add, xM, xS, xP, xIx, xIn, xLe, xLt, xEq, xDv, s_isHouseC n1, hB_in, c0]
        · simp (disch := omega) [fX12_moves, kO_187, kI_208, fX12_moves_41, g_t, b_d, b_c, b_v, Bool.and_true, Bool.and_self, Bool.true_and, xL, xN1, nI_add, xM, xS, xP, xIx, xIn, xLe, xLt, xEq, xDv, s_isHouseM hn n2, hB_in, c0]
      by_cases c : x = 0
      · refine ⟨-1, S, S, ?_, ?_, Rel_up h⟩
        · simp (disch := omega) [fX11_moves, kO_0, kI_35, fX11_moves_21, fX11_moves_47, g_t, b_d, b_c, b_v, Bool.and_true, Bool.and_self, Bool.true_and, xL, xN1, nI_add, xM, xS, xP, xIx, xIn, xLe, xLt, xEq, xDv, s_isHouseC n1, hB_in, x1, c, c0]
        · simp (disch := omega) [fX12_moves, kO_187, kI_208, fX12_moves_41, g_t, b_d, b_c, b_v, Bool.and_true, Bool.and_self, Bool.true_and, xL, xN1, nI_add, xM, xS, xP, xIx, xIn, xLe, xLt, xEq, xDv, s_isHouseM hn n2, hB_in, x2, c, c0]
      by_cases c' : x' = 7
      · refine ⟨-1, S, S, ?_, ?_, Rel_up h⟩
        · simp (disch := omega) [fX11_moves, kO_0, kI_35, fX11_moves_21, fX11_moves_47, g_t, b_d, b_c, b_v, Bool.and_true, Bool.and_self, Bool.true_and, xL, xN1, nI_add, xM, xS, xP, xIx, xIn, xLe, xLt, xEq, xDv, s_isHouseC n1, hB_in, x1, x1', c, c0, c']
        · simp (disch := omega) [fX12_moves, kO_187, kI_208, fX12_moves_41, g_t, b_d, b_c, b_v, Bool.and_true, Bool.and_self, Bool.true_and, xL, xN1, nI_add, xM, xS, xP, xIx, xIn, xLe, xLt, xEq, xDv, s_isHouseM hn n2, hB_in, x2, x2', c, c0, c']
      · have hT : ∀ j, (sI (sI (sI S 35 i (nI (x - 1))) 35 (5 + i) (nI (min (x - 1) y))) 35 t (nI (x' + 1))).1 35 j = if j = t then nI (x' + 1) else if j = 5 + i then nI (min (x - 1) y) else if j = i then nI (x - 1) else S.1 35 j := fun j => by simp [sI_rd]
        have hTo : ∀ a j, a ≠ 35 → (sI (sI (sI S 35 i (nI (x - 1))) 35 (5 + i) (nI (min (x - 1) y))) 35 t (nI (x' + 1))).1 a j = S.1 a j := fun a j g => by simp [sI_rd, g]
        have hT2 : ∀ j, (sI (sI S 35 i (nI (x - 1))) 35 (5 + i) (nI (min (x - 1) y))).1 35 j = if j = 5 + i then nI (min (x - 1) y) else if j = i then nI (x - 1) else S.1 35 j := fun j => by simp [sI_rd]
        have ok1 : okRow ((sI (sI S 35 i (nI (x - 1))) 35 (5 + i) (nI (min (x - 1) y))).1 35) := okRow_up (x := x - 1) (y := min (x - 1) y) (z := z) hN.1.1 (by omega : i < 5) (by omega) (by omega) hz (by rw [hT2, if_neg (by omega), if_pos rfl]) (by rw [hT2, if_pos rfl]) (by rw [hT2, if_neg (by omega), if_neg (by omega)]; exact z1) (fun k _ g1 g2 _ => by rw [hT2, if_neg g2, if_neg g1])
        have ok2 : okRow ((sI (sI (sI S 35 i (nI (x - 1))) 35 (5 + i) (nI (min (x - 1) y))) 35 t (nI (x' + 1))).1 35) := okRow_up (x := x' + 1) (y := y') (z := z') ok1 (by omega : t < 5) (by omega) (by omega) hz' (by rw [hT, if_pos rfl]) (by rw [hT, if_neg (by omega), if_neg (by omega), if_neg (by omega)]; exact y1') (by rw [hT, if_neg (by omega), if_neg (by omega), if_neg (by omega)]; exact z1') (fun k _ g1 _ _ => by rw [hT, if_neg g1, hT2])
        obtain ⟨S3, S4, k1, a1, k2, a2, fin⟩ := act_fin (S := S) (T := sI (sI (sI S 35 i (nI (x - 1))) 35 (5 + i) (nI (min (x - 1) y))) 35 t (nI (x' + 1))) hN (fun a j g => hTo a j (by omega)) ok2
        have e208 : ∀ j, S4.1 208 j = S.1 208 j := fun j => by rw [a2 _ _ (by omega) (by omega) (by omega) (by omega), hTo _ _ (by omega)]
        obtain ⟨S5, v1, v2, v3⟩ := s_leaves (S := S4) (i := i) (x := x) (y := y) (by omega) (by omega) hx hy ((e208 i).trans x2) ((e208 (5 + i)).trans y2)
        have e6 : S5.1 208 t = nI x' := by rw [v2 t (by omega), if_neg (by omega), if_neg (by omega), e208]; exact x2'
        have hf1 : fX11_moves b (nI i) (nI t) S = some (nI (x' + 1), S3) := by
          have c2 : x' < 7 := by omega
          have e3 : S3.1 35 t = nI (x' + 1) := by rw [k2 _ _ (by omega) (by omega), hT, if_pos rfl]
          have e7 : (sI (sI S 35 i (nI (x - 1))) 35 (5 + i) (nI (min (x - 1) y))).1 35 t = nI x' := by rw [hT2, if_neg (by omega), if_neg (by omega)]; exact x1'
          simp (disch := omega) [fX11_moves, kO_0, kI_35, fX11_moves_21, fX11_moves_47, g_t, b_d, b_c, b_v, Bool.and_true, Bool.and_self, Bool.true_and, xL, xN1, nI_add, xM, xS, xP, xIx, xIn, xLe, xLt, xEq, xDv, s_isHouseC n1, hB_in, x1, x1', c0, c, c2, s_leaveOne (by omega) (by omega) hx hy x1 y1, e7, k1, e3]
        have hf2 : fX12_moves (nI i) (nI t) S3 = some (nI (x' + 1), sI S5 208 t (nI (x' + 1))) := by
          have e3 : S3.1 208 i = nI x := by rw [k2 _ _ (by omega) (by omega), hTo _ _ (by omega)]; exact x2
          have e3' : S3.1 208 t = nI x' := by rw [k2 _ _ (by omega) (by omega), hTo _ _ (by omega)]; exact x2'
          have e5 : S3.1 187 37 = nI n := by rw [k2 _ _ (by omega) (by omega), hTo _ _ (by omega)]; exact n2
          simp (disch := omega) [fX12_moves, kO_187, kI_208, fX12_moves_41, g_t, b_d, b_c, b_v, Bool.and_true, Bool.and_self, Bool.true_and, xL, xN1, nI_add, xM, xS, xP, xIx, xIn, xLe, xLt, xEq, xDv, s_isHouseM hn e5, hB_in, e3, e3', c, c0, c', a1, v1, e6, sI_rd]
        refine ⟨_, _, _, hf1, hf2, Rel_nn (agr_trans (av_agr (L := cond b LX11_moves_t LX11_moves_f) (by cases b; exact rX11_moves_f hf1; exact rX11_moves_t hf1) (by cases b <;> decide +kernel)) (av_agr (rX12_moves hf2) (by cases b <;> decide +kernel))) h (fin _ (fun a j g1 g2 g3 g4 g5 _ => by rw [sI_rd, if_neg (by omega)]; exact v3 a j g1 g2 g3 g4 (by omega)) (fun j hj => ?_))⟩
        rw [sI_rd, hT]
        by_cases c1 : j = t
        · simp [c1]
        · rw [if_neg (by omega), if_neg c1, v2 j hj, e208, w j hj]
          by_cases c2 : j = i
          · rw [if_pos c2, if_neg (by omega), if_pos c2]
          · rw [if_neg c2, if_neg c2]
    · refine ⟨-1, S, S, ?_, ?_, Rel_up h⟩
      · simp (disch := omega) [fX11_moves, kO_0, kI_35, fX11_moves_21, fX11_moves_47, g_t, b_d, b_c, b_v, Bool.and_true, Bool.and_self, Bool.true_and, s_isHouseC n1, hB_in, hB_out hv]
      · simp (disch := omega) [fX12_moves, kO_187, kI_208, fX12_moves_41, g_t, b_d, b_c, b_v, Bool.and_true, Bool.and_self, Bool.true_and, s_isHouseM hn n2, hB_in, hB_out hv]
  · refine ⟨-1, S, S, ?_, ?_, Rel_up h⟩
    · simp [fX11_moves, kO_0, kI_35, fX11_moves_21, fX11_moves_47, g_t, b_d, b_c, b_v, Bool.and_true, Bool.and_self, Bool.true_and, s_isHouseC n1, hB_out hv]
    · simp [fX12_moves, kO_187, kI_208, fX12_moves_41, g_t, b_d, b_c, b_v, Bool.and_true, Bool.and_self, Bool.true_and, s_isHouseM hn n2, hB_out hv]
theorem s_exch2 {a : Nat} (ha : a < 40) : ∀ (m i k : Nat) (S : mT), i + m = 17 → m < k → ∃ S', fX12_exchange_2 k (nI (18 * a)) (nI i) S = some S' ∧ (∀ j, S'.1 208 j = if i ≤ j ∧ j < 17 then S.1 212 (18 * a + j) else S.1 208 j) ∧ (∀ j, S'.1 212 j = if 18 * a + i ≤ j ∧ j < 18 * a + 17 then S.1 208 (j - 18 * a) else S.1 212 j) ∧ (∀ c j, c ≠ 208 → c ≠ 212 → S'.1 c j = S.1 c j)
  | 0, i, k, S, hi, hk => by
    obtain ⟨k', rfl⟩ := up1 hk
    have hi : i = 17 := by omega
    subst hi
    refine ⟨S, ?_, fun j => by rw [if_neg (by omega)], fun j => by rw [if_neg (by omega)], fun c j _ _ => rfl⟩
    simp (disch := omega) [fX12_exchange_2, kO_187, kI_212, kI_208, g_t, b_d, b_c, b_v, Bool.and_true, Bool.and_self, Bool.true_and, xL, xN1, nI_add, xM, xS, xP, xIx, xIn, xLe, xLt, xEq, xDv]
  | m + 1, i, k, S, hi, hk => by
    obtain ⟨k', rfl⟩ := up1 hk
    obtain ⟨S', h1, h2, h3, h4⟩ := s_exch2 ha m (i + 1) k' (sI (sI S 212 (18 * a + i) (S.1 208 i)) 208 i (S.1 212 (18 * a + i))) (by omega) (by omega)
    refine ⟨S', ?_, fun j => ?_, fun j => ?_, fun c j g1 g2 => ?_⟩
    · rw [← h1]
      have c : ¬ 17 ≤ i := by omega
      simp (disch := omega) [fX12_exchange_2, kO_187, kI_212, kI_208, g_t, b_d, b_c, b_v, Bool.and_true, Bool.and_self, Bool.true_and, xL, xN1, nI_add, xM, xS, xP, xIx, xIn, xLe, xLt, xEq, xDv, c]
    · rw [h2]
      by_cases q : j = i
      · subst q
        rw [if_neg (by omega), if_pos (by omega), sI_rd, if_pos (by omega)]
      · by_cases q2 : i ≤ j ∧ j < 17
        · rw [if_pos (by omega), if_pos q2, sI_rd, if_neg (by omega), sI_rd, if_neg (by omega)]
        · rw [if_neg (by omega), if_neg q2, sI_rd, if_neg (by omega), sI_rd, if_neg (by omega)]
    · rw [h3]
      by_cases q : j = 18 * a + i
      · subst q
        rw [if_neg (by omega), if_pos (by omega), sI_rd, if_neg (by omega), sI_rd, if_pos (by omega)]
        exact cA (by omega)
      · by_cases q2 : 18 * a + i ≤ j ∧ j < 18 * a + 17
        · rw [if_pos (by omega), if_pos q2, sI_rd, if_neg (by omega), sI_rd, if_neg (by omega)]
        · rw [if_neg (by omega), if_neg q2, sI_rd, if_neg (by omega), sI_rd, if_neg (by omega)]
    · rw [h4 c j g1 g2, sI_rd, if_neg (by omega), sI_rd, if_neg (by omega)]
theorem s_exch {a : Nat} (ha : a < 40) (S : mT) : ∃ S', fX12_exchange (nI (18 * a)) S = some S' ∧ (∀ j, S'.1 208 j = if j < 17 then S.1 212 (18 * a + j) else S.1 208 j) ∧ (∀ j, S'.1 212 j = if 18 * a ≤ j ∧ j < 18 * a + 17 then S.1 208 (j - 18 * a) else S.1 212 j) ∧ (∀ c j, c ≠ 208 → c ≠ 212 → S'.1 c j = S.1 c j) := by
  obtain ⟨S', h1, h2, h3, h4⟩ := s_exch2 ha 17 0 mK S (by omega) (by have := mK_gt; omega)
  refine ⟨S', h1, fun j => ?_, fun j => h3 j, h4⟩
  rw [h2]
  simp
theorem mFit0 : mFit .boolean (nI 0) = true := rfl
theorem mFit1 : mFit .boolean (nI 1) = true := rfl
theorem zz_undo : zH_undo Rel := by
  intro k b S hk h
  obtain ⟨n, hA, ⟨hNow, ⟨o, bh, ah, ho, hba, q3, q4, q5, q6, q7, q8, q9, q10, q11⟩⟩, hBx, hC, hT, hL⟩ := Rel_iff.mp h
  by_cases c : bh = 0
  · subst c
    refine ⟨nI 0, S, S, ?_, ?_, Rel_up h⟩
    · simp (disch := omega) [fX11_undo, kO_0, fX2_stepBack, kO_37, g_t, b_d, b_c, b_v, Bool.and_true, Bool.and_self, Bool.true_and, xL, xN1, nI_add, xM, xS, xP, xIx, xIn, xLe, xLt, xEq, xDv, q4, mFit0]
    · simp (disch := omega) [fX12_undo, kO_187, g_t, b_d, b_c, b_v, Bool.and_true, Bool.and_self, Bool.true_and, xL, xN1, nI_add, xM, xS, xP, xIx, xIn, xLe, xLt, xEq, xDv, q6]
  · have hcp := s_copyTo (S := sI (sI S 37 4 (nI (bh - 1))) 37 5 (nI (ah + 1))) (o := o) (bh := bh - 1) ho (by omega) (by simp [sI_rd, q3]) (by simp [sI_rd])
    have c2 : 0 < bh := by omega
    have hf1 : fX11_undo S = some (nI 1, sC (sI (sI S 37 4 (nI (bh - 1))) 37 5 (nI (ah + 1))) (39 + (o + (bh - 1)) % 41) 35 (0 : Int32) (0 : Int32) (17 : Int32)) := by
      simp (disch := omega) [fX11_undo, kO_0, fX2_stepBack, kO_37, g_t, b_d, b_c, b_v, Bool.and_true, Bool.and_self, Bool.true_and, xL, xN1, nI_add, xM, xS, xP, xIx, xIn, xLe, xLt, xEq, xDv, q4, q5, c2, sI_rd, hcp, mFit1]
    generalize hS1 : sC (sI (sI S 37 4 (nI (bh - 1))) 37 5 (nI (ah + 1))) (39 + (o + (bh - 1)) % 41) 35 (0 : Int32) (0 : Int32) (17 : Int32) = S1 at hf1
    have f1 : ∀ a j, a ≠ 35 → a ≠ 37 → S1.1 a j = S.1 a j := fun a j g1 g2 => by rw [← hS1, sC17, if_neg (by omega), sI_rd, if_neg (by omega), sI_rd, if_neg (by omega)]
    have f35 : ∀ j, j < 17 → S1.1 35 j = S.1 (39 + (o + (bh - 1)) % 41) j := fun j hj => by rw [← hS1, sC17, if_pos ⟨rfl, hj⟩, sI_rd, if_neg (by omega), sI_rd, if_neg (by omega)]
    have f37 : S1.1 37 3 = nI o ∧ S1.1 37 4 = nI (bh - 1) ∧ S1.1 37 5 = nI (ah + 1) := by
      rw [← hS1]
      simp [sC17, sI_rd, q3]
    obtain ⟨S2, x1, x2, x3, x4⟩ := s_exch (a := bh - 1) (by omega) (sI (sI S1 187 46 (nI (bh - 1))) 187 47 (nI (ah + 1)))
    have hf2 : fX12_undo S1 = some (nI 1, S2) := by
      have e1 := f1 187 46 (by omega) (by omega)
      have e2 := f1 187 47 (by omega) (by omega)
      simp (disch := omega) [fX12_undo, kO_187, g_t, b_d, b_c, b_v, Bool.and_true, Bool.and_self, Bool.true_and, xL, xN1, nI_add, xM, xS, xP, xIx, xIn, xLe, xLt, xEq, xDv, e1, e2, q6, q7, c, sI_rd, x1]
    have h35 : ∀ j, S2.1 35 j = S1.1 35 j := fun j => by rw [x4 _ _ (by omega) (by omega), sI_rd, if_neg (by omega), sI_rd, if_neg (by omega)]
    have hrow : ∀ m j, S2.1 (39 + m % 41) j = S.1 (39 + m % 41) j := fun m j => by rw [x4 _ _ (by omega) (by omega), sI_rd, if_neg (by omega), sI_rd, if_neg (by omega), f1 _ _ (by omega) (by omega)]
    have hw : ∀ j, (sI (sI S1 187 46 (nI (bh - 1))) 187 47 (nI (ah + 1))).1 212 j = S.1 212 j := fun j => by rw [sI_rd, if_neg (by omega), sI_rd, if_neg (by omega), f1 _ _ (by omega) (by omega)]
    have hn8 : ∀ j, (sI (sI S1 187 46 (nI (bh - 1))) 187 47 (nI (ah + 1))).1 208 j = S.1 208 j := fun j => by rw [sI_rd, if_neg (by omega), sI_rd, if_neg (by omega), f1 _ _ (by omega) (by omega)]
    refine ⟨_, _, _, hf1, hf2, Rel_nn (agr_trans (av_agr (rX11_undo hf1) (by cases b <;> decide +kernel)) (av_agr (rX12_undo hf2) (by cases b <;> decide +kernel))) h ⟨⟨okRow_eq (fun j hj => (h35 j).trans (f35 j hj)) (q8 (bh - 1) (by omega)), fun j hj => ?_⟩, o, bh - 1, ah + 1, ho, by omega, ?_, ?_, ?_, ?_, ?_, fun j hj => ?_, fun j hj => ?_, fun j hj k hk => ?_, fun j hj hj2 k hk => ?_⟩⟩
    · rw [x2, if_pos hj, hw, h35, f35 j hj]
      exact (q10 (bh - 1) (by omega) j hj).symm
    · rw [x4 _ _ (by omega) (by omega)]
      simpa [sI_rd] using f37.1
    · rw [x4 _ _ (by omega) (by omega)]
      simpa [sI_rd] using f37.2.1
    · rw [x4 _ _ (by omega) (by omega)]
      simpa [sI_rd] using f37.2.2
    · rw [x4 _ _ (by omega) (by omega)]
      simp [sI_rd]
    · rw [x4 _ _ (by omega) (by omega)]
      simp [sI_rd]
    · exact okRow_eq (fun i _ => hrow _ i) (q8 j (by omega))
    · rw [hrow, h35, f35 j hj]
    · rw [hrow, x3, if_neg (by omega), hw]
      exact q10 j (by omega) k hk
    · rw [hrow, x3]
      by_cases e : j = bh - 1
      · rw [if_pos (by omega), hn8, hNow.2 _ (by omega), show o + j + 1 = o + bh by omega, q9 k hk]
        exact cA (by omega)
      · rw [if_neg (by omega), hw]
        exact q11 j (by omega) (by omega) k hk
theorem zz_redo : zH_redo Rel := by
  intro k b S hk h
  obtain ⟨n, hA, ⟨hNow, ⟨o, bh, ah, ho, hba, q3, q4, q5, q6, q7, q8, q9, q10, q11⟩⟩, hBx, hC, hT, hL⟩ := Rel_iff.mp h
  by_cases c : ah = 0
  · subst c
    refine ⟨nI 0, S, S, ?_, ?_, Rel_up h⟩
    · simp (disch := omega) [fX11_redo, kO_0, fX2_stepOn, kO_37, g_t, b_d, b_c, b_v, Bool.and_true, Bool.and_self, Bool.true_and, xL, xN1, nI_add, xM, xS, xP, xIx, xIn, xLe, xLt, xEq, xDv, q5, mFit0]
    · simp (disch := omega) [fX12_redo, kO_187, g_t, b_d, b_c, b_v, Bool.and_true, Bool.and_self, Bool.true_and, xL, xN1, nI_add, xM, xS, xP, xIx, xIn, xLe, xLt, xEq, xDv, q7]
  · have hcp := s_copyTo (S := sI (sI S 37 4 (nI (bh + 1))) 37 5 (nI (ah - 1))) (o := o) (bh := bh + 1) ho (by omega) (by simp [sI_rd, q3]) (by simp [sI_rd])
    have c2 : 0 < ah := by omega
    have hf1 : fX11_redo S = some (nI 1, sC (sI (sI S 37 4 (nI (bh + 1))) 37 5 (nI (ah - 1))) (39 + (o + (bh + 1)) % 41) 35 (0 : Int32) (0 : Int32) (17 : Int32)) := by
      simp (disch := omega) [fX11_redo, kO_0, fX2_stepOn, kO_37, g_t, b_d, b_c, b_v, Bool.and_true, Bool.and_self, Bool.true_and, xL, xN1, nI_add, xM, xS, xP, xIx, xIn, xLe, xLt, xEq, xDv, q4, q5, c2, sI_rd, hcp, mFit1]
    generalize hS1 : sC (sI (sI S 37 4 (nI (bh + 1))) 37 5 (nI (ah - 1))) (39 + (o + (bh + 1)) % 41) 35 (0 : Int32) (0 : Int32) (17 : Int32) = S1 at hf1
    have f1 : ∀ a j, a ≠ 35 → a ≠ 37 → S1.1 a j = S.1 a j := fun a j g1 g2 => by rw [← hS1, sC17, if_neg (by omega), sI_rd, if_neg (by omega), sI_rd, if_neg (by omega)]
    have f35 : ∀ j, j < 17 → S1.1 35 j = S.1 (39 + (o + (bh + 1)) % 41) j := fun j hj => by rw [← hS1, sC17, if_pos ⟨rfl, hj⟩, sI_rd, if_neg (by omega), sI_rd, if_neg (by omega)]
    have f37 : S1.1 37 3 = nI o ∧ S1.1 37 4 = nI (bh + 1) ∧ S1.1 37 5 = nI (ah - 1) := by
      rw [← hS1]
      simp [sC17, sI_rd, q3]
    obtain ⟨S2, x1, x2, x3, x4⟩ := s_exch (a := bh) (by omega) S1
    have hf2 : fX12_redo S1 = some (nI 1, sI (sI S2 187 46 (nI (bh + 1))) 187 47 (nI (ah - 1))) := by
      have e1 := f1 187 46 (by omega) (by omega)
      have e2 := f1 187 47 (by omega) (by omega)
      have e3 := x4 187 46 (by omega) (by omega)
      have e4 := x4 187 47 (by omega) (by omega)
      simp (disch := omega) [fX12_redo, kO_187, g_t, b_d, b_c, b_v, Bool.and_true, Bool.and_self, Bool.true_and, xL, xN1, nI_add, xM, xS, xP, xIx, xIn, xLe, xLt, xEq, xDv, e1, e2, e3, e4, q6, q7, c, sI_rd, x1]
    generalize hS3 : sI (sI S2 187 46 (nI (bh + 1))) 187 47 (nI (ah - 1)) = S3 at hf2
    have g : ∀ a j, a ≠ 187 → S3.1 a j = S2.1 a j := fun a j g1 => by rw [← hS3, sI_rd, if_neg (by omega), sI_rd, if_neg (by omega)]
    have h35 : ∀ j, S3.1 35 j = S1.1 35 j := fun j => by rw [g _ _ (by omega), x4 _ _ (by omega) (by omega)]
    have hrow : ∀ m j, S3.1 (39 + m % 41) j = S.1 (39 + m % 41) j := fun m j => by rw [g _ _ (by omega), x4 _ _ (by omega) (by omega), f1 _ _ (by omega) (by omega)]
    refine ⟨_, _, _, hf1, hf2, Rel_nn (agr_trans (av_agr (rX11_redo hf1) (by cases b <;> decide +kernel)) (av_agr (rX12_redo hf2) (by cases b <;> decide +kernel))) h ⟨⟨okRow_eq (fun j hj => (h35 j).trans (f35 j hj)) (q8 (bh + 1) (by omega)), fun j hj => ?_⟩, o, bh + 1, ah - 1, ho, by omega, ?_, ?_, ?_, ?_, ?_, fun j hj => ?_, fun j hj => ?_, fun j hj k hk => ?_, fun j hj hj2 k hk => ?_⟩⟩
    · rw [g _ _ (by omega), x2, if_pos hj, f1 _ _ (by omega) (by omega), h35, f35 j hj, ← q11 bh (by omega) (by omega) j hj]
      rfl
    · rw [g _ _ (by omega), x4 _ _ (by omega) (by omega)]
      exact f37.1
    · rw [g _ _ (by omega), x4 _ _ (by omega) (by omega)]
      exact f37.2.1
    · rw [g _ _ (by omega), x4 _ _ (by omega) (by omega)]
      exact f37.2.2
    · rw [← hS3]
      simp [sI_rd]
    · rw [← hS3]
      simp [sI_rd]
    · exact okRow_eq (fun i _ => hrow _ i) (q8 j (by omega))
    · rw [hrow, h35, f35 j hj]
    · rw [hrow, g _ _ (by omega), x3]
      by_cases e : j = bh
      · rw [if_pos (by omega), f1 _ _ (by omega) (by omega), hNow.2 _ (by omega), e, q9 k hk]
        exact cA (by omega)
      · rw [if_neg (by omega), f1 _ _ (by omega) (by omega)]
        exact q10 j (by omega) k hk
    · rw [hrow, g _ _ (by omega), x3, if_neg (by omega), f1 _ _ (by omega) (by omega)]
      exact q11 j (by omega) (by omega) k hk
